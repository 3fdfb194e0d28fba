import java.util.Random;

/** Rosters and flags for small numbers against trying all that there are, row by whole row. */
public final class SmallSearchesTest {
    private static final int REST = 4;
    private static final Check CHECK = new Check("SmallSearchesTest");

    public static void main(String[] args) {
        Random random = new Random(20);
        for (int run = 0; run < 60; run++) {
            tryRosters(random, run, 1, 5);
            tryRosters(random, run, 2, 3);
            tryRosters(random, run, 3, 2);
            tryFlags(random, run);
        }
        CHECK.end();
    }

    private static void tryRosters(Random random, int run, int guards, int hours) {
        SandFlags x = new SandFlags();
        int[] miles = new int[4];
        int[][] heads = new int[4][16];
        int from = random.nextInt(16 - hours + 1);
        x.guards(guards);
        for (int beach = 0; beach < 4; beach++) {
            miles[beach] = random.nextInt(run % 2 == 0 ? 41 : 16);
            x.mile(beach, miles[beach]);
            for (int hour = from; hour < from + hours; hour++) {
                heads[beach][hour] = random.nextInt(run % 3 == 0 ? 4 : 60);
                x.crowd(beach, hour, heads[beach][hour]);
            }
        }
        int[] best = bestRoster(guards, hours, from, miles, heads);
        String name = "run " + run + ", guards " + guards + ", hours " + hours;
        CHECK.due(name + ": roster", x.roster(from, from + hours - 1), best[0]);
        for (int hour = 0; hour < hours; hour++) {
            for (int guard = 0; guard < guards; guard++) {
                int place = best[1 + hour * guards + guard];
                CHECK.due(name + ": rosterAt guard " + guard + ", hour " + hour,
                        x.rosterAt(from, from + hours - 1, guard, from + hour), place == REST ? -9 : place);
            }
        }
    }

    /** The risk, then the places hour by hour, guard by guard; rows are tried in the order that is told. */
    private static int[] bestRoster(int guards, int hours, int from, int[] miles, int[][] heads) {
        int length = guards * hours;
        int[] row = new int[length];
        int[] best = null;
        boolean more = true;
        while (more) {
            if (isAllowed(row, guards, hours, miles)) {
                int risk = riskOf(row, guards, hours, from, heads);
                if (best == null || risk < best[0]) {
                    best = new int[length + 1];
                    best[0] = risk;
                    System.arraycopy(row, 0, best, 1, length);
                }
            }
            int i = length - 1;
            while (i >= 0 && row[i] == REST) {
                row[i] = 0;
                i--;
            }
            more = i >= 0;
            if (more) {
                row[i]++;
            }
        }
        return best;
    }

    private static boolean isAllowed(int[] row, int guards, int hours, int[] miles) {
        for (int guard = 0; guard < guards; guard++) {
            int before = REST;
            int onEnd = 0;
            for (int hour = 0; hour < hours; hour++) {
                int place = row[hour * guards + guard];
                onEnd = place == REST ? 0 : onEnd + 1;
                if (onEnd > 2) {
                    return false;
                }
                if (place != REST && before != REST && Math.abs(miles[place] - miles[before]) > 10) {
                    return false;
                }
                before = place;
            }
        }
        return true;
    }

    private static int riskOf(int[] row, int guards, int hours, int from, int[][] heads) {
        int sum = 0;
        for (int hour = 0; hour < hours; hour++) {
            for (int beach = 0; beach < 4; beach++) {
                int there = 0;
                for (int guard = 0; guard < guards; guard++) {
                    there += row[hour * guards + guard] == beach ? 1 : 0;
                }
                sum += 12 * heads[beach][from + hour] / (1 + there);
            }
        }
        return sum;
    }

    /** Banks far apart make each tide's stretches its own; swell 0 makes no rips. */
    private static void tryFlags(Random random, int run) {
        SandFlags x = new SandFlags();
        int hours = 4;
        int from = random.nextInt(13);
        for (int cell = 0; cell < 24; cell++) {
            x.bank(2, cell, random.nextInt(13) - 6);
        }
        for (int hour = from; hour < from + hours; hour++) {
            x.gauge(hour, 0, random.nextInt(13) - 4);
            x.gauge(hour, 1, 0);
        }
        int w = 1 + run % 3;
        int[][] choices = new int[hours][];
        for (int hour = 0; hour < hours; hour++) {
            choices[hour] = stretches(x, from + hour, w);
        }
        int[] best = bestFlags(choices);
        CHECK.due("run " + run + ": flags", x.flags(2, from, from + hours - 1, w), best[0]);
        for (int hour = 0; hour < hours; hour++) {
            CHECK.due("run " + run + ": flagAt", x.flagAt(2, from, from + hours - 1, w, from + hour), best[1 + hour]);
        }
    }

    private static int[] stretches(SandFlags x, int hour, int w) {
        StringBuilder cells = new StringBuilder();
        for (int cell = 0; cell + w <= 24; cell++) {
            boolean all = true;
            for (int c = cell; c < cell + w; c++) {
                all &= x.safe(2, c, hour) == 2;
            }
            if (all) {
                cells.append((char) cell);
            }
        }
        return cells.length() == 0 ? new int[] {-9} : cells.chars().toArray();
    }

    private static int[] bestFlags(int[][] choices) {
        int[] best = null;
        for (int c0 : choices[0]) {
            for (int c1 : choices[1]) {
                for (int c2 : choices[2]) {
                    for (int c3 : choices[3]) {
                        int[] row = {movesOf(c0, c1, c2, c3), c0, c1, c2, c3};
                        if (best == null || row[0] < best[0]) {
                            best = row;
                        }
                    }
                }
            }
        }
        return best;
    }

    private static int movesOf(int... cells) {
        int latest = -9;
        int moves = 0;
        for (int cell : cells) {
            if (cell != -9) {
                moves += latest != -9 && latest != cell ? 1 : 0;
                latest = cell;
            }
        }
        return moves;
    }
}
