import java.math.BigInteger;
import java.util.ArrayList;
import java.util.Arrays;
import java.util.HashMap;
import java.util.List;
import java.util.Map;

/**
 * The document written a second time, as plainly as its words and without care for speed: every tide and
 * swell is tried, guards are held one by one, chances are big fractions, joins are tried one and all.
 */
final class PlainSand {
    private static final class Refusal extends RuntimeException {
        private static final long serialVersionUID = 1L;
        final int number;

        Refusal(int number) {
            super(null, null, false, false);
            this.number = number;
        }
    }

    private static final class Bather {
        int cell;
        int out;
        int state;
        int change;
        int troubleSince;
        int reachedAt;
    }

    /** Where a guard is, and whether it was at a beach the hour ahead; null: at rest. */
    private static final class Place {
        final int to;
        final boolean second;

        Place(int to, boolean second) {
            this.to = to;
            this.second = second;
        }
    }

    private final int[] refusals = new int[7];
    private final int[] mile = {0, 5, 10, 15};
    private final int[][] bank = new int[4][24];
    private Integer[] tide = new Integer[16];
    private Integer[] swell = new Integer[16];
    private int[][] heads = new int[4][16];
    private int[][] jellies = new int[4][16];
    private int guards;
    private int day;
    private int sweep = 24;
    private int longTime = 10;
    private boolean[] rips;
    private List<Bather> bathers = new ArrayList<>();
    private int[] guardFreeAt;
    private int minute;
    private final BigInteger[] parts = new BigInteger[32];
    private final int[] told = new int[32];
    private int[] drift = {0, 4, 0};
    private int made;
    private int boat;
    private final List<Integer> lost = new ArrayList<>();
    private final List<Integer> found = new ArrayList<>();
    private final List<int[]> reports = new ArrayList<>();
    private final List<int[]> rules = new ArrayList<>();
    private final Integer[][] drawn = new Integer[4][24];

    PlainSand() {
        Arrays.fill(parts, BigInteger.ZERO);
    }

    /** Answers a call by its name and arguments; booleans are 1 and 0. */
    long call(String name, int... a) {
        try {
            return answer(name, a);
        } catch (Refusal r) {
            refusals[-r.number]++;
            boolean signed = name.equals("bank") || name.equals("gauge") || name.equals("may");
            return signed ? 1000000000L - r.number : r.number;
        }
    }

    private long answer(String name, int[] a) {
        switch (name) {
            case "mile": return mile(a[0], a[1]);
            case "bank": return bank(a[0], a[1], a[2]);
            case "gauge": return gauge(a[0], a[1], a[2]);
            case "may": return may(a[0], a[1]);
            case "safe": return safe(a[0], a[1], a[2]);
            case "longest": return longest(a[0], a[1], a[2]);
            case "flags": return flags(a[0], a[1], a[2], a[3], a[1])[0];
            case "flagAt": return flags(a[0], a[1], a[2], a[3], a[4])[1 + a[4] - a[1]];
            case "crowd": return crowd(a[0], a[1], a[2]);
            case "guards": return guards(a[0]);
            case "roster": return roster(a[0], a[1]);
            case "rosterAt": return rosterAt(a[0], a[1], a[2], a[3]);
            case "water": return water(a[0], a[1], a[2]);
            case "set": return set(a[0], a[1]);
            case "bather": return bather(a[0], a[1]);
            case "minutes": return minutes(a[0]);
            case "batherOf": return batherOf(a[0], a[1]);
            case "parts": return parts(a[0], a[1]);
            case "drift": return drift(a[0], a[1], a[2]);
            case "drifts": return drifts();
            case "look": return look(a[0], a[1]);
            case "now": return now(a[0], a[1] != 0);
            case "boat": return boat(a[0]);
            case "seek": return seek(a[0], a[1], a[2]);
            case "chance": return chance(a[0], a[1]);
            case "child": return child(a[0] != 0, a[1]);
            case "joins": return joins(a[0]);
            case "joined": return joined(a[0]);
            case "sure": return sure(a[0]);
            case "report": return report(a[0], a[1], a[2]);
            case "rescues": return rescues(a[0]);
            case "rescue": return rescue(a[0], a[1]);
            case "rule": return rule(a);
            case "jelly": return jelly(a[0], a[1], a[2]);
            case "colour": return colour(a[0], a[1]);
            case "days": return days(a[0]);
            case "drawn": return drawn(a[0], a[1], a[2]);
            case "counted": return counted(a[0], a[1]);
            case "count": return count(a[0]);
            default: throw new AssertionError(name);
        }
    }

    private static void refuseIf(boolean bad, int number) {
        if (bad) {
            throw new Refusal(number);
        }
    }

    private static void needBeach(int beach) {
        refuseIf(beach < 0 || beach > 3, -1);
    }

    private static void needCell(int cell) {
        refuseIf(cell < 0 || cell > 23, -1);
    }

    private static void needHour(int hour) {
        refuseIf(hour < 0 || hour > 15, -1);
    }

    private static void needNumber(int v, int least, int most) {
        refuseIf(v < least, -4);
        refuseIf(v > most, -6);
    }

    private int mile(int beach, int v) {
        needBeach(beach);
        needNumber(v, 0, 40);
        int was = mile[beach];
        mile[beach] = v;
        return was;
    }

    private int bank(int beach, int cell, int v) {
        needBeach(beach);
        needCell(cell);
        needNumber(v, -9, 9);
        int was = bank[beach][cell];
        bank[beach][cell] = v;
        return was;
    }

    private int gauge(int hour, int what, int v) {
        needHour(hour);
        refuseIf(what != 0 && what != 1, -2);
        if (v != 99) {
            needNumber(v, what == 0 ? -9 : 0, 9);
        }
        Integer[] row = what == 0 ? tide : swell;
        int was = row[hour] == null ? 99 : row[hour];
        row[hour] = v == 99 ? null : Integer.valueOf(v);
        return was;
    }

    private List<Integer> tides(int hour) {
        List<Integer> all = new ArrayList<>();
        if (tide[hour] != null) {
            all.add(tide[hour]);
            return all;
        }
        Integer ahead = null;
        Integer behind = null;
        for (int h = 0; h < hour; h++) {
            ahead = tide[h] != null ? tide[h] : ahead;
        }
        for (int h = 15; h > hour; h--) {
            behind = tide[h] != null ? tide[h] : behind;
        }
        for (int t = -9; t <= 9; t++) {
            boolean may;
            if (ahead != null && behind != null) {
                may = ahead <= t && t <= behind || behind <= t && t <= ahead;
            } else if (ahead != null) {
                may = Math.abs(t - ahead) <= 3;
            } else {
                may = behind == null || Math.abs(t - behind) <= 3;
            }
            if (may) {
                all.add(t);
            }
        }
        return all;
    }

    private List<Integer> swells(int hour) {
        List<Integer> all = new ArrayList<>();
        if (swell[hour] != null) {
            all.add(swell[hour]);
            return all;
        }
        int greatest = -1;
        for (Integer s : swell) {
            greatest = s != null ? Math.max(greatest, s) : greatest;
        }
        for (int s = 0; s <= (greatest < 0 ? 9 : greatest); s++) {
            all.add(s);
        }
        return all;
    }

    private static int last(List<Integer> row) {
        return row.get(row.size() - 1);
    }

    private int may(int hour, int what) {
        needHour(hour);
        refuseIf(what < 0 || what > 2, -2);
        return what == 0 ? tides(hour).get(0) : what == 1 ? last(tides(hour)) : last(swells(hour));
    }

    private boolean rip(int beach, int cell, int t, int s) {
        int depth = t - bank[beach][cell];
        boolean deep = s >= 3 && depth >= 2;
        if (cell > 0) {
            deep &= depth >= t - bank[beach][cell - 1] + 2;
        }
        if (cell < 23) {
            deep &= depth >= t - bank[beach][cell + 1] + 2;
        }
        return deep;
    }

    private boolean good(int beach, int cell, int t, int s) {
        int depth = t - bank[beach][cell];
        return !rip(beach, cell, t, s) && (cell == 0 || !rip(beach, cell - 1, t, s))
                && (cell == 23 || !rip(beach, cell + 1, t, s)) && depth >= 0 && depth <= 4 && s <= 6;
    }

    private int safe(int beach, int cell, int hour) {
        needBeach(beach);
        needCell(cell);
        needHour(hour);
        boolean all = true;
        boolean none = true;
        for (int t : tides(hour)) {
            for (int s : swells(hour)) {
                boolean g = good(beach, cell, t, s);
                all &= g;
                none &= !g;
            }
        }
        return all ? 2 : none ? 0 : 1;
    }

    private boolean stretch(int beach, int hour, int from, int w) {
        if (from + w > 24) {
            return false;
        }
        for (int c = from; c < from + w; c++) {
            if (safe(beach, c, hour) != 2) {
                return false;
            }
        }
        return true;
    }

    private int longest(int beach, int hour, int what) {
        needBeach(beach);
        needHour(hour);
        refuseIf(what != 0 && what != 1, -2);
        for (int w = 24; w >= 1; w--) {
            for (int from = 0; from < 24; from++) {
                if (stretch(beach, hour, from, w)) {
                    return what == 0 ? from : w;
                }
            }
        }
        return what == 0 ? -9 : 0;
    }

    /** Moves, then the first cell of each hour from a to b. */
    private int[] flags(int beach, int a, int b, int w, int hour) {
        needBeach(beach);
        needHour(a);
        needHour(b);
        refuseIf(b < a || hour < a || hour > b, -1);
        needNumber(w, 1, 24);
        List<List<Integer>> open = new ArrayList<>();
        for (int h = a; h <= b; h++) {
            List<Integer> row = new ArrayList<>();
            for (int c = 0; c < 24; c++) {
                if (stretch(beach, h, c, w)) {
                    row.add(c);
                }
            }
            open.add(row);
        }
        return bestFlags(open, 0, -9, new HashMap<>());
    }

    /** Compares whole rows: moves first, then cells in their order. */
    private static int[] bestFlags(List<List<Integer>> open, int at, int latest, Map<Integer, int[]> memo) {
        if (at == open.size()) {
            return new int[] {0};
        }
        int key = at * 100 + latest + 9;
        if (memo.containsKey(key)) {
            return memo.get(key);
        }
        int[] best = null;
        List<Integer> choices = open.get(at).isEmpty() ? List.of(-9) : open.get(at);
        for (int c : choices) {
            int[] rest = bestFlags(open, at + 1, c == -9 ? latest : c, memo);
            int[] row = new int[rest.length + 1];
            row[0] = rest[0] + (c != -9 && latest != -9 && c != latest ? 1 : 0);
            row[1] = c;
            System.arraycopy(rest, 1, row, 2, rest.length - 1);
            if (best == null || Arrays.compare(row, best) < 0) {
                best = row;
            }
        }
        memo.put(key, best);
        return best;
    }

    private int crowd(int beach, int hour, int v) {
        needBeach(beach);
        needHour(hour);
        needNumber(v, 0, 999);
        int was = heads[beach][hour];
        heads[beach][hour] = v;
        return was;
    }

    private int guards(int n) {
        needNumber(n, 0, 4);
        int was = guards;
        guards = n;
        return was;
    }

    private int roster(int a, int b) {
        needHour(a);
        needHour(b);
        refuseIf(b < a, -1);
        refuseIf(b - a + 1 > 6, -6);
        return leastRisk(a, b, new Place[guards], new HashMap<>());
    }

    private int rosterAt(int a, int b, int guard, int hour) {
        needHour(a);
        needHour(b);
        refuseIf(b < a || hour < a || hour > b || guard < 0 || guard >= guards, -1);
        refuseIf(b - a + 1 > 6, -6);
        Map<Long, Integer> memo = new HashMap<>();
        Place[] now = new Place[guards];
        for (int h = a; h <= hour; h++) {
            int due = leastRisk(h, b, now, memo);
            Place[] first = null;
            for (Place[] next : nexts(now)) {
                if (risk(h, next) + leastRisk(h + 1, b, next, memo) == due) {
                    first = next;
                    break;
                }
            }
            now = first;
        }
        return now[guard] == null ? -9 : now[guard].to;
    }

    private int leastRisk(int h, int b, Place[] now, Map<Long, Integer> memo) {
        if (h > b) {
            return 0;
        }
        long key = h;
        for (Place p : now) {
            key = key * 9 + (p == null ? 8 : p.to * 2 + (p.second ? 1 : 0));
        }
        Integer known = memo.get(key);
        if (known != null) {
            return known;
        }
        int least = Integer.MAX_VALUE;
        for (Place[] next : nexts(now)) {
            least = Math.min(least, risk(h, next) + leastRisk(h + 1, b, next, memo));
        }
        memo.put(key, least);
        return least;
    }

    private int risk(int h, Place[] at) {
        int sum = 0;
        for (int beach = 0; beach < 4; beach++) {
            int n = 0;
            for (Place p : at) {
                n += p != null && p.to == beach ? 1 : 0;
            }
            sum += 12 * heads[beach][h] / (1 + n);
        }
        return sum;
    }

    /** All that may come next, the first first. */
    private List<Place[]> nexts(Place[] now) {
        List<Place[]> rows = new ArrayList<>();
        rows.add(new Place[0]);
        for (Place p : now) {
            List<Place[]> longer = new ArrayList<>();
            for (Place[] row : rows) {
                for (int beach = 0; beach < 4; beach++) {
                    boolean may = p == null || !p.second && Math.abs(mile[p.to] - mile[beach]) <= 10;
                    if (may) {
                        longer.add(with(row, new Place(beach, p != null)));
                    }
                }
                longer.add(with(row, null));
            }
            rows = longer;
        }
        return rows;
    }

    private static Place[] with(Place[] row, Place p) {
        Place[] longer = Arrays.copyOf(row, row.length + 1);
        longer[row.length] = p;
        return longer;
    }

    private int water(int beach, int hour, int g) {
        needBeach(beach);
        needHour(hour);
        needNumber(g, 0, 4);
        rips = new boolean[24];
        for (int c = 0; c < 24; c++) {
            rips[c] = rip(beach, c, last(tides(hour)), last(swells(hour)));
        }
        bathers = new ArrayList<>();
        guardFreeAt = new int[g];
        minute = 0;
        return 1;
    }

    private int set(int what, int v) {
        refuseIf(what != 0 && what != 1, -2);
        needNumber(v, 1, what == 0 ? 24 : 60);
        int was = what == 0 ? sweep : longTime;
        if (what == 0) {
            sweep = v;
        } else {
            longTime = v;
        }
        return was;
    }

    private int bather(int cell, int out) {
        refuseIf(rips == null, -5);
        needCell(cell);
        needNumber(out, 0, 30);
        refuseIf(bathers.size() == 20, -6);
        Bather b = new Bather();
        b.cell = cell;
        b.out = out;
        bathers.add(b);
        return bathers.size() - 1;
    }

    private int minutes(int n) {
        refuseIf(rips == null, -5);
        refuseIf(n < 1, -4);
        refuseIf((long) minute + n > 200, -6);
        for (int end = minute + n; minute < end; minute++) {
            passMinute();
        }
        return minute;
    }

    private void passMinute() {
        for (Bather b : bathers) {
            if (b.state == 3 && b.reachedAt == minute) {
                become(b, 4);
            }
        }
        for (Bather b : bathers) {
            if (b.state >= 4) {
                continue;
            }
            if (rips[b.cell]) {
                b.out = b.out + 2 > 30 ? 30 : b.out + 2;
            } else if (b.out > 0 && b.state == 0) {
                b.out = b.out - 1;
            }
            if (b.out >= 6 && b.state == 0) {
                become(b, 1);
                b.troubleSince = minute;
            }
        }
        boolean[] swept = new boolean[24];
        int first = minute % sweep * 24 / sweep;
        int next = (minute % sweep + 1) * 24 / sweep;
        Arrays.fill(swept, first, next, true);
        for (Bather b : bathers) {
            if (b.state == 1 && swept[b.cell]) {
                become(b, 2);
            }
        }
        for (Bather b : bathers) {
            for (int g = 0; g < guardFreeAt.length && b.state == 2; g++) {
                if (guardFreeAt[g] <= minute) {
                    int k = (int) Math.ceil(b.out / 3.0) + (int) Math.ceil(Math.abs(b.cell - 12) / 2.0);
                    become(b, 3);
                    b.reachedAt = minute + Math.max(k, 1);
                    guardFreeAt[g] = minute + 2 * Math.max(k, 1);
                }
            }
        }
        for (Bather b : bathers) {
            if (b.state >= 1 && b.state <= 3 && b.troubleSince + longTime <= minute) {
                become(b, 5);
            }
        }
    }

    private void become(Bather b, int state) {
        b.state = state;
        b.change = minute;
    }

    private int batherOf(int bather, int what) {
        refuseIf(rips == null, -5);
        refuseIf(bather < 0 || bather >= bathers.size(), -1);
        refuseIf(what < 0 || what > 2, -2);
        Bather b = bathers.get(bather);
        return what == 0 ? b.out : what == 1 ? b.state : b.change;
    }

    private static void needPlace(int place) {
        refuseIf(place < 0 || place > 31, -1);
    }

    private static BigInteger big(long v) {
        return BigInteger.valueOf(v);
    }

    private static BigInteger sum(BigInteger[] row) {
        BigInteger sum = BigInteger.ZERO;
        for (BigInteger p : row) {
            sum = sum.add(p);
        }
        return sum;
    }

    private int parts(int place, int v) {
        needPlace(place);
        needNumber(v, 0, 1000000);
        int was = told[place];
        if (made > 0) {
            Arrays.fill(parts, BigInteger.ZERO);
            Arrays.fill(told, 0);
            made = 0;
        }
        parts[place] = big(v);
        told[place] = v;
        return was;
    }

    private int drift(int l, int s, int r) {
        refuseIf(l < 0 || s < 0 || r < 0, -4);
        refuseIf(l > 4 || s > 4 || r > 4, -6);
        refuseIf(l + s + r != 4, -3);
        drift = new int[] {l, s, r};
        return 1;
    }

    private BigInteger[] drifted(BigInteger[] row) {
        BigInteger[] next = new BigInteger[32];
        Arrays.fill(next, BigInteger.ZERO);
        for (int p = 0; p < 32; p++) {
            for (int step = -1; step <= 1; step++) {
                int to = Math.max(0, Math.min(31, p + step));
                next[to] = next[to].add(row[p].multiply(big(drift[step + 1])));
            }
        }
        return next;
    }

    private static BigInteger[] looked(BigInteger[] row, int place, int q) {
        BigInteger[] next = new BigInteger[32];
        for (int p = 0; p < 32; p++) {
            next[p] = row[p].multiply(big(p == place ? 8 - q : 8));
        }
        return next;
    }

    private int drifts() {
        refuseIf(sum(parts).signum() == 0, -5);
        refuseIf(made == 10, -6);
        System.arraycopy(drifted(parts), 0, parts, 0, 32);
        made++;
        return made;
    }

    private int look(int place, int q) {
        needPlace(place);
        refuseIf(sum(parts).signum() == 0, -5);
        needNumber(q, 1, 8);
        refuseIf(made == 10, -6);
        System.arraycopy(looked(parts, place, q), 0, parts, 0, 32);
        made++;
        return made;
    }

    private long now(int place, boolean all) {
        if (!all && (place < 0 || place > 31)) {
            throw new IllegalArgumentException();
        }
        return all ? sum(parts).longValueExact() : parts[place].longValueExact();
    }

    private int boat(int place) {
        needPlace(place);
        int was = boat;
        boat = place;
        return was;
    }

    private void needSeek(int m, int q) {
        refuseIf(m < 1 || q < 1, -4);
        refuseIf(m > 3 || q > 8, -6);
        refuseIf(sum(parts).signum() == 0, -5);
        refuseIf(made + 2 * m > 10, -6);
    }

    /** The row of places that leaves the least; rows come by their places, the least first. */
    private int[] bestRow(int m, int q) {
        int[] best = null;
        BigInteger bestLeft = null;
        for (int code = 0; code < (int) Math.pow(32, m); code++) {
            int[] row = new int[m];
            int c = code;
            int from = boat;
            boolean may = true;
            for (int i = m - 1; i >= 0; i--) {
                row[i] = c % 32;
                c /= 32;
            }
            for (int i = 0; i < m; i++) {
                may &= Math.abs(row[i] - from) <= 3;
                from = row[i];
            }
            if (may) {
                BigInteger left = left(row, q);
                if (best == null || left.compareTo(bestLeft) < 0) {
                    best = row;
                    bestLeft = left;
                }
            }
        }
        return best;
    }

    private BigInteger left(int[] row, int q) {
        BigInteger[] now = parts;
        for (int place : row) {
            now = drifted(looked(now, place, q));
        }
        return sum(now);
    }

    private int seek(int m, int q, int i) {
        needSeek(m, q);
        refuseIf(i < 0 || i >= m, -1);
        return bestRow(m, q)[i];
    }

    private int chance(int m, int q) {
        needSeek(m, q);
        BigInteger whole = sum(parts).multiply(big(32).pow(m));
        BigInteger gone = whole.subtract(left(bestRow(m, q), q));
        return gone.multiply(big(1000000)).divide(whole).intValueExact();
    }

    private int child(boolean isFound, int marks) {
        List<Integer> row = isFound ? found : lost;
        needNumber(marks, 0, 99999);
        refuseIf(row.size() == 8, -6);
        row.add(marks);
        return row.size() - 1;
    }

    private int unlike(int l, int f) {
        String a = String.format("%05d", lost.get(l));
        String b = String.format("%05d", found.get(f));
        int n = 0;
        for (int i = 0; i < 5; i++) {
            n += a.charAt(i) != b.charAt(i) ? 1 : 0;
        }
        return n;
    }

    /** Tries all; rows come in their order, so that only a better one takes the first one's stead. */
    private int[] bestJoin() {
        int[][] table = new int[lost.size()][found.size()];
        for (int l = 0; l < lost.size(); l++) {
            for (int f = 0; f < found.size(); f++) {
                table[l][f] = unlike(l, f);
            }
        }
        int[][] best = new int[2][];
        tryJoin(table, 0, new int[lost.size()], new boolean[8], new int[] {0, 0}, best);
        return best[1];
    }

    private static void tryJoin(int[][] table, int l, int[] row, boolean[] taken, int[] worth, int[][] best) {
        if (l == table.length) {
            boolean better = best[0] == null || worth[0] > best[0][0]
                    || worth[0] == best[0][0] && worth[1] < best[0][1];
            if (better) {
                best[0] = worth.clone();
                best[1] = row.clone();
            }
            return;
        }
        for (int f = 0; f < table[l].length; f++) {
            if (!taken[f] && table[l][f] <= 2) {
                taken[f] = true;
                row[l] = f;
                tryJoin(table, l + 1, row, taken, new int[] {worth[0] + 1, worth[1] + table[l][f]}, best);
                taken[f] = false;
            }
        }
        row[l] = -9;
        tryJoin(table, l + 1, row, taken, worth, best);
    }

    private int joins(int what) {
        refuseIf(what != 0 && what != 1, -2);
        int[] row = bestJoin();
        int n = 0;
        int sum = 0;
        for (int l = 0; l < row.length; l++) {
            if (row[l] != -9) {
                n++;
                sum += unlike(l, row[l]);
            }
        }
        return what == 0 ? n : sum;
    }

    private int joined(int l) {
        refuseIf(l < 0 || l >= lost.size(), -1);
        return bestJoin()[l];
    }

    private int sure(int l) {
        int f = joined(l);
        if (f == -9) {
            return 0;
        }
        for (int other = 0; other < found.size(); other++) {
            if (other != f && unlike(l, other) <= unlike(l, f)) {
                return 0;
            }
        }
        for (int other = 0; other < lost.size(); other++) {
            if (other != l && unlike(other, f) <= unlike(l, f)) {
                return 0;
            }
        }
        return 1;
    }

    private int report(int beach, int at, int cell) {
        needBeach(beach);
        needCell(cell);
        needNumber(at, 0, 959);
        refuseIf(reports.size() == 40, -6);
        reports.add(new int[] {beach, at, cell});
        return reports.size() - 1;
    }

    /** First minutes and least reports of all rescues of a beach, in their order. */
    private List<int[]> rescuesOf(int beach) {
        int n = reports.size();
        boolean[][] one = new boolean[n][n];
        for (int i = 0; i < n; i++) {
            for (int j = 0; j < n; j++) {
                int[] a = reports.get(i);
                int[] b = reports.get(j);
                one[i][j] = a[0] == b[0] && Math.abs(a[1] - b[1]) <= 5 && Math.abs(a[2] - b[2]) <= 3;
            }
        }
        for (int k = 0; k < n; k++) {
            for (int i = 0; i < n; i++) {
                for (int j = 0; j < n; j++) {
                    one[i][j] |= one[i][k] && one[k][j];
                }
            }
        }
        List<int[]> all = new ArrayList<>();
        for (int i = 0; i < n; i++) {
            boolean least = reports.get(i)[0] == beach;
            int first = 9999;
            for (int j = 0; j < n; j++) {
                least &= !(one[i][j] && j < i);
                first = one[i][j] ? Math.min(first, reports.get(j)[1]) : first;
            }
            if (least) {
                all.add(new int[] {first, i});
            }
        }
        all.sort(Arrays::compare);
        return all;
    }

    private int rescues(int beach) {
        needBeach(beach);
        return rescuesOf(beach).size();
    }

    private int rescue(int beach, int i) {
        needBeach(beach);
        List<int[]> all = rescuesOf(beach);
        return i < 0 || i >= all.size() ? -9 : all.get(i)[0];
    }

    private int rule(int[] a) {
        refuseIf(a[0] < day || a[1] < 0 || a[2] < 0 || a[3] < 0 || a[4] < 1, -4);
        refuseIf(a[0] > 300 || a[1] > 999 || a[2] > 999 || a[3] > 999 || a[4] > 4, -6);
        refuseIf(rules.size() == 20, -6);
        rules.add(a.clone());
        return rules.size() - 1;
    }

    private int jelly(int beach, int hour, int v) {
        needBeach(beach);
        needHour(hour);
        needNumber(v, 0, 999);
        int was = jellies[beach][hour];
        jellies[beach][hour] = v;
        return was;
    }

    private int colour(int beach, int hour) {
        needBeach(beach);
        needHour(hour);
        int sum = jellies[beach][hour] + (hour >= 1 ? jellies[beach][hour - 1] : 0)
                + (hour >= 2 ? jellies[beach][hour - 2] : 0);
        int greatest = 0;
        for (int[] r : rules) {
            if (r[0] <= day && last(swells(hour)) >= r[1] && heads[beach][hour] >= r[2] && sum >= r[3]) {
                greatest = Math.max(greatest, r[4]);
            }
        }
        return greatest;
    }

    private int days(int n) {
        refuseIf(n < 0, -4);
        refuseIf((long) day + n > 300, -6);
        for (int i = 0; i < n; i++) {
            day++;
            tide = new Integer[16];
            swell = new Integer[16];
            heads = new int[4][16];
            jellies = new int[4][16];
        }
        return day;
    }

    private int drawn(int beach, int cell, int v) {
        needBeach(beach);
        needCell(cell);
        needNumber(v, -1, 30);
        drawn[beach][cell] = v == -1 ? null : Integer.valueOf(v);
        int n = 0;
        for (Integer d : drawn[beach]) {
            n += d != null ? 1 : 0;
        }
        return n;
    }

    private int counted(int beach, int what) {
        needBeach(beach);
        refuseIf(what < 0 || what > 2, -2);
        int n = 0;
        int sum = 0;
        int most = 0;
        for (Integer d : drawn[beach]) {
            n += d != null ? 1 : 0;
            sum += d != null ? d : 0;
            most += d != null ? d : 30;
        }
        refuseIf(n == 0, -5);
        return what == 0 ? 24 * sum / n : what == 1 ? sum : most;
    }

    private int batherCount(int state) {
        int n = 0;
        for (Bather b : bathers) {
            n += b.state == state ? 1 : 0;
        }
        return n;
    }

    private int count(int what) {
        int[] all = {day, guards, bathers.size(), batherCount(4), batherCount(5), reports.size(), rules.size(),
            lost.size(), found.size(), made, -9, refusals[1], refusals[2], refusals[3], refusals[4],
            refusals[5], refusals[6]};
        return what < 0 || what >= all.length ? -9 : all[what];
    }
}
