import java.util.ArrayList;
import java.util.Arrays;
import java.util.List;

/**
 * Every refusal of every call, by a table in the order in which the document tells them: each one by itself,
 * each one ahead of every later one, counted once, and nothing else changed; and the least and the greatest
 * of each number, which are not refused.
 */
public final class RefusalsTest {
    private static final Check CHECK = new Check("RefusalsTest");
    private static final int LEAST_INT = Integer.MIN_VALUE;
    private static final int GREATEST_INT = Integer.MAX_VALUE;
    private static final int SIGNED = 1000000000;

    private static final int NOBODY = -1;
    private static final int OTHER = -2;
    private static final int STATE = -3;
    private static final int BELOW = -4;
    private static final int MISSING = -5;
    private static final int ROOM = -6;

    // what an object has not, or is full of
    private static final int NO_WATER = 1;
    private static final int NO_PARTS = 2;
    private static final int NONE_DRAWN = 4;
    private static final int TWENTY_BATHERS = 8;
    private static final int TEN_MADE = 16;
    private static final int NINE_MADE = 32;
    private static final int EIGHT_LOST = 64;
    private static final int EIGHT_FOUND = 128;
    private static final int FORTY_REPORTS = 256;
    private static final int TWENTY_RULES = 512;
    private static final int PARTS_AWAY = 1024;
    private static final int ALL_MINUTES = 2048;
    private static final int ALL_DAYS = 4096;
    private static final int SEVEN_MADE = 8192;
    private static final int FIVE_MADE = 16384;

    private interface Call {
        long on(SandFlags x, int[] a);
    }

    /** One way to be refused: an argument of a value, or a state of the object (argument -1). */
    private record Fault(int number, int argument, int value, int state) { }

    /** A call with arguments that are not refused, and its faults in the document's order. */
    private static final class Row {
        final String name;
        final Call call;
        final int[] base;
        final boolean signed;
        final List<Fault> faults = new ArrayList<>();
        final List<int[]> fine = new ArrayList<>();

        Row(String name, Call call, boolean signed, int... base) {
            this.name = name;
            this.call = call;
            this.signed = signed;
            this.base = base;
            fine.add(base);
        }

        Row refuses(int number, int argument, int... values) {
            for (int value : values) {
                faults.add(new Fault(number, argument, value, 0));
            }
            return this;
        }

        Row refusesIf(int number, int state) {
            faults.add(new Fault(number, -1, 0, state));
            return this;
        }

        Row takes(int argument, int... values) {
            for (int value : values) {
                int[] a = base.clone();
                a[argument] = value;
                fine.add(a);
            }
            return this;
        }

        Row nobody(int argument, int least, int most) {
            takes(argument, least, most);
            return refuses(NOBODY, argument, least - 1, most + 1, LEAST_INT, GREATEST_INT);
        }

        Row other(int argument, int most) {
            takes(argument, 0, most);
            return refuses(OTHER, argument, -1, most + 1, LEAST_INT, GREATEST_INT);
        }

        Row below(int argument, int least) {
            takes(argument, least);
            return refuses(BELOW, argument, least - 1, LEAST_INT);
        }

        Row above(int argument, int most) {
            takes(argument, most);
            return refuses(ROOM, argument, most + 1, GREATEST_INT);
        }
    }

    private static final List<Row> ROWS = new ArrayList<>();

    private static Row row(String name, Call call, int... base) {
        Row row = new Row(name, call, false, base);
        ROWS.add(row);
        return row;
    }

    private static Row signedRow(String name, Call call, int... base) {
        Row row = new Row(name, call, true, base);
        ROWS.add(row);
        return row;
    }

    public static void main(String[] args) {
        shore();
        guards();
        water();
        search();
        children();
        rules();
        for (Row row : ROWS) {
            takesWhatIsFine(row);
            refusesEach(row);
            refusesInOrder(row);
        }
        answersWithoutRefusal();
        CHECK.end();
    }

    // ---- the table, in the document's order

    private static void shore() {
        row("mile", (x, a) -> x.mile(a[0], a[1]), 1, 20).nobody(0, 0, 3).below(1, 0).above(1, 40);
        signedRow("bank", (x, a) -> x.bank(a[0], a[1], a[2]), 1, 7, 2)
                .nobody(0, 0, 3).nobody(1, 0, 23).below(2, -9).above(2, 9);
        Call gauge = (x, a) -> x.gauge(a[0], a[1], a[2]);
        signedRow("gauge of a tide", gauge, 3, 0, 1).nobody(0, 0, 15)
                .refuses(OTHER, 1, -1, 2, LEAST_INT, GREATEST_INT)
                .below(2, -9).above(2, 9).refuses(ROOM, 2, 98, 100).takes(2, 99);
        signedRow("gauge of a swell", gauge, 3, 1, 1).nobody(0, 0, 15)
                .refuses(OTHER, 1, -1, 2, LEAST_INT, GREATEST_INT)
                .below(2, 0).above(2, 9).refuses(ROOM, 2, 98, 100).takes(2, 99);
        signedRow("may", (x, a) -> x.may(a[0], a[1]), 3, 1).nobody(0, 0, 15).other(1, 2);
        row("safe", (x, a) -> x.safe(a[0], a[1], a[2]), 1, 7, 3).nobody(0, 0, 3).nobody(1, 0, 23).nobody(2, 0, 15);
        row("longest", (x, a) -> x.longest(a[0], a[1], a[2]), 1, 3, 0).nobody(0, 0, 3).nobody(1, 0, 15).other(2, 1);
        row("flags", (x, a) -> x.flags(a[0], a[1], a[2], a[3]), 1, 4, 8, 2)
                .nobody(0, 0, 3)
                .refuses(NOBODY, 1, -1, 9, 16, LEAST_INT, GREATEST_INT).takes(1, 0, 8)
                .refuses(NOBODY, 2, -1, 3, 16, LEAST_INT, GREATEST_INT).takes(2, 4, 15)
                .below(3, 1).above(3, 24);
        row("flagAt", (x, a) -> x.flagAt(a[0], a[1], a[2], a[3], a[4]), 1, 4, 8, 2, 6)
                .nobody(0, 0, 3)
                .refuses(NOBODY, 1, -1, 7, 9, 16, LEAST_INT, GREATEST_INT).takes(1, 0, 6)
                .refuses(NOBODY, 2, -1, 3, 5, 16, LEAST_INT, GREATEST_INT).takes(2, 6, 15)
                .refuses(NOBODY, 4, -1, 3, 9, 16, LEAST_INT, GREATEST_INT).takes(4, 4, 8)
                .below(3, 1).above(3, 24);
    }

    private static void guards() {
        row("crowd", (x, a) -> x.crowd(a[0], a[1], a[2]), 1, 3, 5)
                .nobody(0, 0, 3).nobody(1, 0, 15).below(2, 0).above(2, 999);
        row("guards", (x, a) -> x.guards(a[0]), 2).below(0, 0).above(0, 4);
        row("roster", (x, a) -> x.roster(a[0], a[1]), 2, 5)
                .refuses(NOBODY, 0, -1, 9, 16, LEAST_INT, GREATEST_INT).takes(0, 0, 5)
                .refuses(NOBODY, 1, -1, 1, 16, LEAST_INT, GREATEST_INT)
                .refuses(ROOM, 1, 8).takes(1, 2, 7);
        row("rosterAt", (x, a) -> x.rosterAt(a[0], a[1], a[2], a[3]), 2, 5, 1, 3)
                .refuses(NOBODY, 0, -1, 4, 9, 16, LEAST_INT, GREATEST_INT).takes(0, 0, 3)
                .refuses(NOBODY, 1, -1, 1, 2, 16, LEAST_INT, GREATEST_INT)
                .nobody(2, 0, 2)
                .refuses(NOBODY, 3, -1, 1, 9, 16, LEAST_INT, GREATEST_INT).takes(3, 2, 5)
                .refuses(ROOM, 1, 8).takes(1, 3, 7);
    }

    private static void water() {
        row("water", (x, a) -> x.water(a[0], a[1], a[2]), 1, 3, 2)
                .nobody(0, 0, 3).nobody(1, 0, 15).below(2, 0).above(2, 4);
        Call set = (x, a) -> x.set(a[0], a[1]);
        row("set of SWEEP", set, 0, 6).refuses(OTHER, 0, -1, 2, LEAST_INT, GREATEST_INT).below(1, 1).above(1, 24);
        row("set of LONG", set, 1, 6).refuses(OTHER, 0, -1, 2, LEAST_INT, GREATEST_INT).below(1, 1).above(1, 60);
        row("bather", (x, a) -> x.bather(a[0], a[1]), 5, 5)
                .refusesIf(MISSING, NO_WATER).nobody(0, 0, 23).below(1, 0).above(1, 30)
                .refusesIf(ROOM, TWENTY_BATHERS);
        // five minutes have passed in the water
        row("minutes", (x, a) -> x.minutes(a[0]), 3)
                .refusesIf(MISSING, NO_WATER).below(0, 1).above(0, 195).refusesIf(ROOM, ALL_MINUTES);
        row("batherOf", (x, a) -> x.batherOf(a[0], a[1]), 1, 1)
                .refusesIf(MISSING, NO_WATER).nobody(0, 0, 2).other(1, 2);
    }

    private static void search() {
        row("parts", (x, a) -> x.parts(a[0], a[1]), 9, 7).nobody(0, 0, 31).below(1, 0).above(1, 1000000);
        row("drift", (x, a) -> x.drift(a[0], a[1], a[2]), 1, 2, 1)
                .refuses(BELOW, 0, -1, LEAST_INT).refuses(BELOW, 1, -1, LEAST_INT).refuses(BELOW, 2, -1, LEAST_INT)
                .refuses(ROOM, 0, 5, GREATEST_INT).refuses(ROOM, 1, 5, GREATEST_INT)
                .refuses(ROOM, 2, 5, GREATEST_INT)
                .refuses(STATE, 0, 0, 2, 3, 4);
        row("drifts", (x, a) -> x.drifts())
                .refusesIf(MISSING, NO_PARTS).refusesIf(MISSING, PARTS_AWAY).refusesIf(ROOM, TEN_MADE);
        row("look", (x, a) -> x.look(a[0], a[1]), 9, 3)
                .nobody(0, 0, 31).refusesIf(MISSING, NO_PARTS).refusesIf(MISSING, PARTS_AWAY)
                .below(1, 1).above(1, 8).refusesIf(ROOM, TEN_MADE);
        row("boat", (x, a) -> x.boat(a[0]), 9).nobody(0, 0, 31);
        seeking(row("seek for 1", (x, a) -> x.seek(a[0], a[1], a[2]), 1, 3, 0), NINE_MADE).nobody(2, 0, 0);
        seeking(row("seek for 2", (x, a) -> x.seek(a[0], a[1], a[2]), 2, 3, 0), SEVEN_MADE).nobody(2, 0, 1);
        seeking(row("seek for 3", (x, a) -> x.seek(a[0], a[1], a[2]), 3, 3, 0), FIVE_MADE).nobody(2, 0, 2);
        seeking(row("chance for 1", (x, a) -> x.chance(a[0], a[1]), 1, 3), NINE_MADE);
        seeking(row("chance for 2", (x, a) -> x.chance(a[0], a[1]), 2, 3), SEVEN_MADE);
        seeking(row("chance for 3", (x, a) -> x.chance(a[0], a[1]), 3, 3), FIVE_MADE);
    }

    private static Row seeking(Row row, int tooMany) {
        return row.below(0, 1).below(1, 1).above(0, 3).above(1, 8)
                .refusesIf(MISSING, NO_PARTS).refusesIf(MISSING, PARTS_AWAY)
                .refusesIf(ROOM, tooMany).refusesIf(ROOM, TEN_MADE);
    }

    private static void children() {
        Call child = (x, a) -> x.child(a[0] != 0, a[1]);
        row("child, lost", child, 0, 5).below(1, 0).above(1, 99999).refusesIf(ROOM, EIGHT_LOST);
        row("child, found", child, 1, 5).below(1, 0).above(1, 99999).refusesIf(ROOM, EIGHT_FOUND);
        row("joins", (x, a) -> x.joins(a[0]), 0).other(0, 1);
        row("joined", (x, a) -> x.joined(a[0]), 1).nobody(0, 0, 2);
        row("sure", (x, a) -> x.sure(a[0]), 1).nobody(0, 0, 2);
        row("report", (x, a) -> x.report(a[0], a[1], a[2]), 1, 50, 7)
                .nobody(0, 0, 3).nobody(2, 0, 23).below(1, 0).above(1, 959).refusesIf(ROOM, FORTY_REPORTS);
        row("rescues", (x, a) -> x.rescues(a[0]), 1).nobody(0, 0, 3);
        row("rescue", (x, a) -> x.rescue(a[0], a[1]), 1, 0).nobody(0, 0, 3)
                .takes(1, -1, 1, 40, LEAST_INT, GREATEST_INT);
    }

    private static void rules() {
        // it is day 2
        row("rule", (x, a) -> x.rule(a[0], a[1], a[2], a[3], a[4]), 5, 5, 5, 5, 2)
                .below(0, 2).below(1, 0).below(2, 0).below(3, 0).below(4, 1)
                .above(0, 300).above(1, 999).above(2, 999).above(3, 999).above(4, 4)
                .refusesIf(ROOM, TWENTY_RULES);
        row("jelly", (x, a) -> x.jelly(a[0], a[1], a[2]), 1, 3, 5)
                .nobody(0, 0, 3).nobody(1, 0, 15).below(2, 0).above(2, 999);
        row("colour", (x, a) -> x.colour(a[0], a[1]), 1, 3).nobody(0, 0, 3).nobody(1, 0, 15);
        row("days", (x, a) -> x.days(a[0]), 3).below(0, 0).above(0, 298).refusesIf(ROOM, ALL_DAYS);
        row("drawn", (x, a) -> x.drawn(a[0], a[1], a[2]), 1, 7, 5)
                .nobody(0, 0, 3).nobody(1, 0, 23).below(2, -1).above(2, 30);
        row("counted", (x, a) -> x.counted(a[0], a[1]), 1, 1)
                .nobody(0, 0, 3).other(1, 2).refusesIf(MISSING, NONE_DRAWN);
    }

    // ---- objects of which something of everything is told

    private static boolean has(int states, int state) {
        return (states & state) != 0;
    }

    private static SandFlags lived(int states) {
        SandFlags x = new SandFlags();
        x.days(has(states, ALL_DAYS) ? 300 : 2);
        liveOnShore(x);
        if (!has(states, NO_WATER)) {
            liveInWater(x, has(states, TWENTY_BATHERS) ? 20 : 3, has(states, ALL_MINUTES) ? 200 : 5);
        }
        liveInSearch(x, states);
        if (!has(states, NONE_DRAWN)) {
            drawSome(x);
        }
        for (int i = 0; i < 8; i++) {
            if (i < 3 || has(states, EIGHT_LOST)) {
                x.child(false, 12345 + i);
            }
            if (i < 2 || has(states, EIGHT_FOUND)) {
                x.child(true, 12340 + i);
            }
        }
        for (int i = 0; i < (has(states, FORTY_REPORTS) ? 40 : 5); i++) {
            x.report(i % 4, 50 + i, 7);
        }
        for (int i = 0; i < (has(states, TWENTY_RULES) ? 20 : 2); i++) {
            x.rule(has(states, ALL_DAYS) ? 300 : 2 + i, i, i, i, 1 + i % 4);
        }
        return x;
    }

    private static void liveOnShore(SandFlags x) {
        for (int beach = 0; beach < 4; beach++) {
            x.mile(beach, 7 * beach);
            x.bank(beach, 7, -2);
            x.bank(beach, 9, 3);
            x.crowd(beach, 3, 40 + beach);
            x.jelly(beach, 3, 20 + beach);
        }
        x.gauge(3, 0, 2);
        x.gauge(3, 1, 4);
        x.gauge(6, 0, 1);
        x.guards(3);
    }

    private static void liveInWater(SandFlags x, int bathers, int minutes) {
        x.water(1, 3, 2);
        x.set(0, 12);
        x.set(1, 20);
        for (int i = 0; i < bathers; i++) {
            x.bather(6 + i % 8, i);
        }
        x.minutes(minutes);
    }

    private static void liveInSearch(SandFlags x, int states) {
        int made = has(states, TEN_MADE) ? 10 : has(states, NINE_MADE) ? 9 : has(states, SEVEN_MADE) ? 7
                : has(states, FIVE_MADE) ? 5 : 0;
        x.drift(1, 2, 1);
        x.boat(10);
        if (has(states, NO_PARTS)) {
            return;
        }
        x.parts(9, 7);
        if (has(states, PARTS_AWAY)) {
            for (int i = 1; i < made; i++) {
                x.look(0, 8);
            }
            x.look(9, 8);
            return;
        }
        x.parts(12, 5);
        for (int i = 0; i < made; i++) {
            x.look(0, 8);
        }
    }

    private static void drawSome(SandFlags x) {
        for (int beach = 0; beach < 4; beach++) {
            x.drawn(beach, 7, 4);
            x.drawn(beach, 8, 6);
        }
    }

    // ---- what is looked at

    private static void takesWhatIsFine(Row row) {
        for (int[] a : row.fine) {
            SandFlags x = lived(0);
            long[] ahead = refusalsOf(x);
            row.call.on(x, a);
            CHECK.isTrue(row.name + Arrays.toString(a) + " is not refused", Arrays.equals(ahead, refusalsOf(x)));
        }
    }

    private static void refusesEach(Row row) {
        for (Fault fault : row.faults) {
            int[] a = row.base.clone();
            put(fault, a);
            String what = row.name + Arrays.toString(a) + " in state " + fault.state();
            SandFlags x = lived(fault.state());
            long[] ahead = refusalsOf(x);
            CHECK.due(what, row.call.on(x, a), row.signed ? SIGNED - fault.number() : fault.number());
            long[] behind = refusalsOf(x);
            ahead[-fault.number() - 1]++;
            CHECK.isTrue(what + " is counted once", Arrays.equals(ahead, behind));
            seemAlike(what, stateOf(x), stateOf(lived(fault.state())));
        }
    }

    /** Two faults at once: the one that the document tells first. */
    private static void refusesInOrder(Row row) {
        for (int i = 0; i < row.faults.size(); i++) {
            for (int j = i + 1; j < row.faults.size(); j++) {
                Fault first = row.faults.get(i);
                Fault later = row.faults.get(j);
                if (first.argument() != later.argument() || first.argument() == -1) {
                    int[] a = row.base.clone();
                    put(later, a);
                    put(first, a);
                    SandFlags x = lived(first.state() | later.state());
                    CHECK.due(row.name + Arrays.toString(a) + " in state " + (first.state() | later.state()),
                            row.call.on(x, a), row.signed ? SIGNED - first.number() : first.number());
                }
            }
        }
    }

    private static void put(Fault fault, int[] a) {
        if (fault.argument() >= 0) {
            a[fault.argument()] = fault.value();
        }
    }

    private static long[] refusalsOf(SandFlags x) {
        long[] all = new long[6];
        for (int kind = 1; kind <= 6; kind++) {
            all[kind - 1] = x.count(10 + kind);
        }
        return all;
    }

    private static void seemAlike(String what, List<Long> got, List<Long> want) {
        CHECK.isTrue(what + " changes nothing: " + got + ", due is " + want, got.equals(want));
    }

    /** All that the face tells of an object; tells it something else at the end. */
    private static List<Long> stateOf(SandFlags x) {
        List<Long> all = new ArrayList<>();
        for (int what = 0; what <= 9; what++) {
            all.add((long) x.count(what));
        }
        for (int i = 0; i < 20; i++) {
            all.add((long) x.batherOf(i, 0));
            all.add((long) x.batherOf(i, 1));
            all.add((long) x.batherOf(i, 2));
        }
        for (int i = 0; i < 8; i++) {
            all.add((long) x.joined(i));
            all.add((long) x.sure(i));
        }
        for (int i = 0; i < 32; i++) {
            all.add(x.now(i, false));
        }
        all.add((long) x.roster(2, 5));
        all.add((long) x.rosterAt(2, 5, 2, 4));
        for (int beach = 0; beach < 4; beach++) {
            all.add((long) x.colour(beach, 3));
            all.add((long) x.counted(beach, 0));
            all.add((long) x.counted(beach, 1));
            all.add((long) x.rescues(beach));
            all.add((long) x.rescue(beach, 0));
        }
        all.addAll(stateToldAnew(x));
        return all;
    }

    private static List<Long> stateToldAnew(SandFlags x) {
        List<Long> all = new ArrayList<>();
        for (int beach = 0; beach < 4; beach++) {
            all.add((long) x.mile(beach, 0));
            for (int cell : new int[] {0, 5, 7, 9, 23}) {
                all.add((long) x.bank(beach, cell, 0));
            }
            for (int hour : new int[] {0, 3, 15}) {
                all.add((long) x.crowd(beach, hour, 0));
                all.add((long) x.jelly(beach, hour, 0));
            }
        }
        for (int hour = 0; hour < 16; hour++) {
            all.add((long) x.gauge(hour, 0, 99));
            all.add((long) x.gauge(hour, 1, 99));
        }
        all.add((long) x.minutes(1));
        all.add((long) x.set(0, 1));
        all.add((long) x.set(1, 1));
        all.add((long) x.boat(0));
        all.add((long) x.parts(9, 1));
        all.add((long) x.parts(12, 0));
        x.drifts();
        for (int place = 8; place <= 10; place++) {
            all.add(x.now(place, false));
        }
        return all;
    }

    /** Answers below 0 that are no refusals, a throw, and a what of count that is no other: none is counted. */
    private static void answersWithoutRefusal() {
        SandFlags x = new SandFlags();
        x.guards(1);
        x.child(false, 0);
        CHECK.due("longest: none", x.longest(0, 0, 0), -9);
        CHECK.due("flagAt: shut", x.flagAt(0, 0, 0, 1, 0), -9);
        CHECK.due("rosterAt: at rest", x.rosterAt(0, 2, 0, 2), -9);
        CHECK.due("joined: none", x.joined(0), -9);
        CHECK.due("rescue: none such", x.rescue(0, 0), -9);
        CHECK.due("count of another what", x.count(10), -9);
        x.bank(0, 0, -1);
        CHECK.due("bank: -1", x.bank(0, 0, -4), -1);
        CHECK.due("bank: -4", x.bank(0, 0, 0), -4);
        x.gauge(0, 0, -6);
        CHECK.due("gauge: -6", x.gauge(0, 0, -2), -6);
        CHECK.due("may: -2", x.may(0, 0), -2);
        CHECK.due("may: -5", x.may(15, 0), -5);
        boolean thrown = false;
        try {
            x.now(32, false);
        } catch (IllegalArgumentException e) {
            thrown = true;
        }
        CHECK.isTrue("now throws", thrown);
        CHECK.isTrue("none is counted", Arrays.equals(new long[6], refusalsOf(x)));
    }
}
