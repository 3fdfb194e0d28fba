import java.util.Arrays;
import java.util.Random;

/** Many runs of calls, each on a new object, against PlainSand; the same runs every time. */
public final class AgainstPlainSandTest {
    private static final long THROWN = Long.MIN_VALUE;
    private static final Check CHECK = new Check("AgainstPlainSandTest");

    /** A call and, of each argument, its least and greatest value that is not refused. */
    private record Form(String name, int... bounds) { }

    private static final Form[] SHORE = {
        new Form("bank", 0, 1, 0, 23, -4, 4), new Form("bank", 0, 1, 0, 23, -1, 1), new Form("bank", 0, 3, 0, 23, -9, 9),
        new Form("gauge", 0, 15, 0, 0, -9, 9), new Form("gauge", 0, 15, 0, 0, 0, 3), new Form("gauge", 0, 15, 1, 1, 0, 9),
        new Form("gauge", 0, 15, 0, 1, 99, 99), new Form("gauge", 0, 15, 1, 1, 0, 6),
        new Form("may", 0, 15, 0, 2), new Form("safe", 0, 1, 0, 23, 0, 15), new Form("safe", 0, 3, 0, 23, 0, 15),
        new Form("longest", 0, 1, 0, 15, 0, 1), new Form("flags", 0, 1, 0, 4, 3, 15, 1, 4),
        new Form("flagAt", 0, 1, 0, 4, 3, 15, 1, 4, 0, 15), new Form("flagAt", 0, 1, 0, 15, 0, 15, 1, 24, 0, 15)};
    private static final Form[] SHORE_LATE = {
        new Form("flags", 0, 0, 0, 6, 5, 15, 1, 3), new Form("flagAt", 0, 0, 0, 4, 5, 15, 1, 3, 3, 6),
        new Form("flagAt", 0, 0, 0, 2, 12, 15, 1, 4, 2, 12), new Form("safe", 0, 0, 0, 23, 0, 15),
        new Form("longest", 0, 0, 0, 15, 0, 1), new Form("bank", 0, 0, 0, 23, -2, 2),
        new Form("gauge", 0, 15, 0, 0, 0, 4), new Form("gauge", 0, 15, 1, 1, 0, 6)};
    private static final Form[] ROSTER = {
        new Form("crowd", 0, 3, 0, 7, 0, 40), new Form("crowd", 0, 3, 0, 15, 0, 999), new Form("crowd", 0, 3, 0, 7, 0, 3),
        new Form("crowd", 0, 3, 0, 7, 0, 40), new Form("crowd", 0, 3, 0, 7, 0, 40), new Form("crowd", 0, 3, 0, 7, 0, 40),
        new Form("mile", 0, 3, 0, 40), new Form("mile", 0, 3, 0, 12), new Form("guards", 0, 4), new Form("guards", 1, 3),
        new Form("roster", 0, 3, 2, 6), new Form("rosterAt", 0, 2, 3, 6, 0, 2, 1, 5), new Form("days", 0, 1)};
    private static final Form[] WATER = {
        new Form("water", 0, 1, 0, 15, 0, 4), new Form("bather", 0, 23, 0, 30), new Form("bather", 0, 23, 0, 9),
        new Form("bather", 0, 23, 5, 9), new Form("bather", 0, 23, 0, 9), new Form("minutes", 1, 3),
        new Form("minutes", 1, 12), new Form("minutes", 1, 2), new Form("minutes", 1, 100),
        new Form("batherOf", 0, 6, 0, 2), new Form("batherOf", 0, 6, 0, 2), new Form("batherOf", 0, 6, 0, 2),
        new Form("batherOf", 0, 19, 0, 2), new Form("set", 0, 0, 1, 24), new Form("set", 1, 1, 1, 60),
        new Form("bank", 0, 1, 0, 23, -9, 0), new Form("gauge", 0, 15, 0, 0, 0, 9), new Form("gauge", 0, 15, 1, 1, 2, 9),
        new Form("count", 2, 4), new Form("days", 0, 1)};
    private static final Form[] SEARCH = {
        new Form("parts", 0, 31, 0, 1000000), new Form("parts", 0, 31, 1, 20), new Form("parts", 3, 9, 1, 3),
        new Form("drift", 0, 4, 0, 4, 0, 4), new Form("drift", 1, 1, 2, 2, 1, 1), new Form("drift", 0, 1, 0, 3, 1, 3),
        new Form("drifts"), new Form("look", 0, 31, 1, 8), new Form("look", 3, 9, 1, 8),
        new Form("now", 0, 31, 0, 1), new Form("now", 0, 31, 0, 0), new Form("boat", 0, 31), new Form("boat", 3, 9),
        new Form("seek", 1, 2, 1, 8, 0, 1), new Form("chance", 1, 2, 1, 8), new Form("count", 9, 9)};
    private static final Form[] LONG_SEARCH = {
        new Form("parts", 0, 31, 0, 1000000), new Form("parts", 3, 9, 1, 3), new Form("parts", 3, 9, 1, 3),
        new Form("drift", 0, 4, 0, 4, 0, 4), new Form("boat", 3, 9), new Form("boat", 0, 31), new Form("drifts"),
        new Form("look", 3, 9, 1, 8), new Form("seek", 3, 3, 1, 8, 0, 2), new Form("chance", 3, 3, 1, 8)};
    private static final Form[] CHILDREN = {
        new Form("child", 0, 1, 0, 99999), new Form("child", 0, 1, 0, 22), new Form("child", 0, 1, 110, 133),
        new Form("child", 0, 1, 10, 233), new Form("child", 0, 1, 10, 33), new Form("joins", 0, 1),
        new Form("joined", 0, 7), new Form("joined", 0, 3), new Form("sure", 0, 7), new Form("sure", 0, 3)};
    private static final Form[] REPORTS = {
        new Form("report", 0, 3, 0, 959, 0, 23), new Form("report", 0, 1, 0, 99, 0, 23),
        new Form("report", 0, 0, 0, 60, 0, 23), new Form("report", 0, 0, 0, 60, 0, 23),
        new Form("rescues", 0, 3), new Form("rescues", 0, 0), new Form("rescue", 0, 0, 0, 5), new Form("rescue", 0, 3, 0, 2)};
    private static final Form[] RULES = {
        new Form("rule", 0, 9, 0, 9, 0, 30, 0, 30, 1, 4), new Form("rule", 0, 300, 0, 999, 0, 999, 0, 999, 1, 4),
        new Form("jelly", 0, 1, 0, 5, 0, 20), new Form("jelly", 0, 3, 0, 15, 0, 999), new Form("crowd", 0, 1, 0, 5, 0, 40),
        new Form("gauge", 0, 5, 1, 1, 0, 9), new Form("colour", 0, 1, 0, 5), new Form("colour", 0, 1, 0, 5),
        new Form("colour", 0, 3, 0, 15), new Form("days", 0, 2), new Form("drawn", 0, 3, 0, 23, -1, 30),
        new Form("drawn", 0, 0, 0, 23, -1, 30), new Form("counted", 0, 0, 0, 2), new Form("counted", 0, 3, 0, 2),
        new Form("count", 0, 16), new Form("count", 11, 16)};

    public static void main(String[] args) {
        runs(1, 150, 300, 6, SHORE);
        runs(2, 80, 200, 20, SHORE_LATE);
        runs(3, 120, 120, 12, ROSTER);
        runs(4, 600, 300, 10, WATER);
        runs(5, 150, 200, 10, SEARCH);
        runs(6, 8, 40, 20, LONG_SEARCH);
        runs(7, 120, 60, 12, CHILDREN);
        runs(8, 200, 120, 15, REPORTS);
        runs(9, 300, 300, 10, RULES);
        // with the counts at the end not above the 512 calls that are promised
        runs(10, 60, 490, 8, all());
        CHECK.end();
    }

    private static Form[] all() {
        Form[][] themes = {SHORE, ROSTER, WATER, SEARCH, CHILDREN, REPORTS, RULES};
        Form[] all = new Form[0];
        for (Form[] theme : themes) {
            int n = all.length;
            all = Arrays.copyOf(all, n + theme.length);
            System.arraycopy(theme, 0, all, n, theme.length);
        }
        return all;
    }

    /** One call in so many (oddOneIn) has arguments that are mostly refused. */
    private static void runs(int seed, int runs, int calls, int oddOneIn, Form[] forms) {
        Random random = new Random(seed);
        for (int run = 0; run < runs; run++) {
            SandFlags x = new SandFlags();
            PlainSand plain = new PlainSand();
            for (int i = 0; i < calls; i++) {
                Form form = forms[random.nextInt(forms.length)];
                int[] a = arguments(random, form, random.nextInt(oddOneIn) == 0);
                long want = plainly(plain, form.name(), a);
                long got = answer(x, form.name(), a);
                CHECK.due("theme " + seed + ", run " + run + ", call " + i + ": " + form.name() + Arrays.toString(a),
                        got, want);
                if (got != want) {
                    break;
                }
            }
            for (int what = 0; what <= 17; what++) {
                CHECK.due("theme " + seed + ", run " + run + ": count at the end", x.count(what), plain.call("count", what));
            }
        }
    }

    private static int[] arguments(Random random, Form form, boolean odd) {
        int[] a = new int[form.bounds().length / 2];
        for (int i = 0; i < a.length; i++) {
            int least = form.bounds()[2 * i];
            int most = form.bounds()[2 * i + 1];
            a[i] = least + random.nextInt(most - least + 1);
            if (odd && random.nextInt(2) == 0) {
                int[] odds = {least - 1, most + 1, -1, 0, 1, 2, 3, 4, 10, 16, 24, 25, 31, 32, 40, 41, 99, 100, 999, 1000,
                    Integer.MIN_VALUE, Integer.MAX_VALUE, Integer.MAX_VALUE - 3, 1000001};
                a[i] = odds[random.nextInt(odds.length)];
            }
        }
        return a;
    }

    private static long plainly(PlainSand plain, String name, int[] a) {
        try {
            return plain.call(name, a);
        } catch (IllegalArgumentException e) {
            return THROWN;
        }
    }

    private static long answer(SandFlags x, String name, int[] a) {
        switch (name) {
            case "mile": return x.mile(a[0], a[1]);
            case "bank": return x.bank(a[0], a[1], a[2]);
            case "gauge": return x.gauge(a[0], a[1], a[2]);
            case "may": return x.may(a[0], a[1]);
            case "safe": return x.safe(a[0], a[1], a[2]);
            case "longest": return x.longest(a[0], a[1], a[2]);
            case "flags": return x.flags(a[0], a[1], a[2], a[3]);
            case "flagAt": return x.flagAt(a[0], a[1], a[2], a[3], a[4]);
            case "crowd": return x.crowd(a[0], a[1], a[2]);
            case "guards": return x.guards(a[0]);
            case "roster": return x.roster(a[0], a[1]);
            case "rosterAt": return x.rosterAt(a[0], a[1], a[2], a[3]);
            case "water": return x.water(a[0], a[1], a[2]);
            case "set": return x.set(a[0], a[1]);
            case "bather": return x.bather(a[0], a[1]);
            case "minutes": return x.minutes(a[0]);
            case "batherOf": return x.batherOf(a[0], a[1]);
            case "parts": return x.parts(a[0], a[1]);
            case "drift": return x.drift(a[0], a[1], a[2]);
            case "drifts": return x.drifts();
            case "look": return x.look(a[0], a[1]);
            case "now": return now(x, a[0], a[1] != 0);
            case "boat": return x.boat(a[0]);
            case "seek": return x.seek(a[0], a[1], a[2]);
            case "chance": return x.chance(a[0], a[1]);
            case "child": return x.child(a[0] != 0, a[1]);
            case "joins": return x.joins(a[0]);
            case "joined": return x.joined(a[0]);
            case "sure": return x.sure(a[0]);
            case "report": return x.report(a[0], a[1], a[2]);
            case "rescues": return x.rescues(a[0]);
            case "rescue": return x.rescue(a[0], a[1]);
            case "rule": return x.rule(a[0], a[1], a[2], a[3], a[4]);
            case "jelly": return x.jelly(a[0], a[1], a[2]);
            case "colour": return x.colour(a[0], a[1]);
            case "days": return x.days(a[0]);
            case "drawn": return x.drawn(a[0], a[1], a[2]);
            case "counted": return x.counted(a[0], a[1]);
            case "count": return x.count(a[0]);
            default: throw new AssertionError(name);
        }
    }

    private static long now(SandFlags x, int place, boolean all) {
        try {
            return x.now(place, all);
        } catch (IllegalArgumentException e) {
            return THROWN;
        }
    }
}
