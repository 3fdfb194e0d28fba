/** Each promise by itself: ordinary calls, the edges that the document names, and refusals in their order. */
public final class PromisesTest {
    private static final int HIGH = 1000000000;
    private static final int LEAST_INT = Integer.MIN_VALUE;
    private static final int GREATEST_INT = Integer.MAX_VALUE;
    private static final Check CHECK = new Check("PromisesTest");
    private static int promise;

    private static void due(String call, long got, long want) {
        CHECK.due("promise " + promise + ": " + call, got, want);
    }

    public static void main(String[] args) {
        promise = 1; aNewObject();
        promise = 2; mile();
        promise = 3; bank();
        promise = 4; gauge();
        promise = 5; may();
        promise = 6; safe();
        promise = 7; longest();
        promise = 8; flags();
        promise = 9; flagAt();
        promise = 10; crowd();
        promise = 11; guards();
        promise = 12; roster();
        promise = 13; rosterAt();
        promise = 14; water();
        promise = 15; set();
        promise = 16; bather();
        promise = 17; minutes();
        promise = 18; batherOf();
        promise = 19; parts();
        promise = 20; drift();
        promise = 21; drifts();
        promise = 22; look();
        promise = 23; now();
        promise = 24; boat();
        promise = 25; seek();
        promise = 26; chance();
        promise = 27; child();
        promise = 28; joins();
        promise = 29; joined();
        promise = 30; sure();
        promise = 31; report();
        promise = 32; rescues();
        promise = 33; rescue();
        promise = 34; rule();
        promise = 35; jelly();
        promise = 36; colour();
        promise = 37; days();
        promise = 38; drawn();
        promise = 39; counted();
        promise = 40; count();
        CHECK.end();
    }

    private static void aNewObject() {
        SandFlags x = new SandFlags();
        for (int what = 0; what <= 9; what++) {
            due("count(" + what + ") at first", x.count(what), 0);
        }
        for (int what = 11; what <= 16; what++) {
            due("count(" + what + ") at first", x.count(what), 0);
        }
        for (int beach = 0; beach < 4; beach++) {
            due("mile at first", x.mile(beach, 0), 5 * beach);
            for (int cell = 0; cell < 24; cell++) {
                due("bank at first", x.bank(beach, cell, 1), 0);
            }
            for (int hour = 0; hour < 16; hour++) {
                due("crowd at first", x.crowd(beach, hour, 1), 0);
                due("jelly at first", x.jelly(beach, hour, 1), 0);
            }
            due("counted at first", x.counted(beach, 0), -5);
            due("rescues at first", x.rescues(beach), 0);
        }
        for (int hour = 0; hour < 16; hour++) {
            due("tide at first", x.gauge(hour, 0, 0), 99);
            due("swell at first", x.gauge(hour, 1, 0), 99);
        }
        due("SWEEP at first", x.set(0, 1), 24);
        due("LONG at first", x.set(1, 1), 10);
        due("BOAT at first", x.boat(5), 0);
        for (int place = 0; place < 32; place++) {
            due("parts at first", x.parts(place, 1), 0);
        }
        due("a minute of the first DRIFT", x.drifts(), 1);
        due("stays by the first DRIFT", x.now(0, false), 4);
        due("stays by the first DRIFT", x.now(31, false), 4);
        due("colour at first", x.colour(0, 0), 0);
    }

    private static void mile() {
        SandFlags x = new SandFlags();
        due("mile(2, 40)", x.mile(2, 40), 10);
        due("mile(2, 0)", x.mile(2, 0), 40);
        due("mile(2, 7)", x.mile(2, 7), 0);
        due("mile(-1, -1)", x.mile(-1, -1), -1);
        due("mile(4, 41)", x.mile(4, 41), -1);
        due("mile(2, -1)", x.mile(2, -1), -4);
        due("mile(2, 41)", x.mile(2, 41), -6);
        due("mile of extremes", x.mile(LEAST_INT, 0), -1);
        due("mile of extremes", x.mile(GREATEST_INT, 0), -1);
        due("mile of extremes", x.mile(0, LEAST_INT), -4);
        due("mile of extremes", x.mile(0, GREATEST_INT), -6);
        due("mile(2, 7) after refusals", x.mile(2, 7), 7);
        due("mile(3, 1)", x.mile(3, 1), 15);
    }

    private static void bank() {
        SandFlags x = new SandFlags();
        due("bank(3, 23, -9)", x.bank(3, 23, -9), 0);
        due("bank(3, 23, 9)", x.bank(3, 23, 9), -9);
        due("bank(3, 23, -1)", x.bank(3, 23, -1), 9);
        due("bank(3, 23, -1)", x.bank(3, 23, -1), -1);
        due("bank(3, 22, 0)", x.bank(3, 22, 0), 0);
        due("bank(2, 23, 0)", x.bank(2, 23, 0), 0);
        due("bank(-1, 0, 10)", x.bank(-1, 0, 10), HIGH + 1);
        due("bank(4, 0, -10)", x.bank(4, 0, -10), HIGH + 1);
        due("bank(0, -1, 0)", x.bank(0, -1, 0), HIGH + 1);
        due("bank(0, 24, 0)", x.bank(0, 24, 0), HIGH + 1);
        due("bank(3, 23, -10)", x.bank(3, 23, -10), HIGH + 4);
        due("bank(3, 23, 10)", x.bank(3, 23, 10), HIGH + 6);
        due("bank after refusals", x.bank(3, 23, 0), -1);
        due("count(11)", x.count(11), 4);
        due("count(14)", x.count(14), 1);
        due("count(16)", x.count(16), 1);
    }

    private static void gauge() {
        SandFlags x = new SandFlags();
        due("gauge(15, 0, -9)", x.gauge(15, 0, -9), 99);
        due("gauge(15, 0, 9)", x.gauge(15, 0, 9), -9);
        due("gauge(15, 1, 9)", x.gauge(15, 1, 9), 99);
        due("gauge(15, 1, 0)", x.gauge(15, 1, 0), 9);
        due("gauge(15, 0, 99)", x.gauge(15, 0, 99), 9);
        due("gauge(15, 1, 99)", x.gauge(15, 1, 99), 0);
        due("gauge(15, 0, 99)", x.gauge(15, 0, 99), 99);
        due("gauge(-1, 2, 10)", x.gauge(-1, 2, 10), HIGH + 1);
        due("gauge(16, 0, 0)", x.gauge(16, 0, 0), HIGH + 1);
        due("gauge(0, -1, -10)", x.gauge(0, -1, -10), HIGH + 2);
        due("gauge(0, 2, 99)", x.gauge(0, 2, 99), HIGH + 2);
        due("gauge(0, 0, -10)", x.gauge(0, 0, -10), HIGH + 4);
        due("gauge(0, 1, -1)", x.gauge(0, 1, -1), HIGH + 4);
        due("gauge(0, 0, 10)", x.gauge(0, 0, 10), HIGH + 6);
        due("gauge(0, 1, 10)", x.gauge(0, 1, 10), HIGH + 6);
        due("gauge(0, 0, 98)", x.gauge(0, 0, 98), HIGH + 6);
        due("gauge(0, 0, 100)", x.gauge(0, 0, 100), HIGH + 6);
        due("gauge(0, 1, 100)", x.gauge(0, 1, 100), HIGH + 6);
        due("gauge(0, 0, -99)", x.gauge(0, 0, -99), HIGH + 4);
        due("tide after refusals", x.gauge(0, 0, 1), 99);
        due("swell after refusals", x.gauge(0, 1, 1), 99);
    }

    private static void may() {
        SandFlags x = new SandFlags();
        due("least with none", x.may(15, 0), -9);
        due("greatest with none", x.may(15, 1), 9);
        due("swell with none", x.may(15, 2), 9);
        x.gauge(6, 0, 8);
        due("own", x.may(6, 0), 8);
        due("own", x.may(6, 1), 8);
        due("one behind: 3 less", x.may(0, 0), 5);
        due("one behind: held", x.may(0, 1), 9);
        due("one ahead: 3 less", x.may(15, 0), 5);
        due("one ahead: held", x.may(15, 1), 9);
        x.gauge(10, 0, -7);
        due("between: least", x.may(8, 0), -7);
        due("between: greatest", x.may(8, 1), 8);
        due("held below", x.may(11, 0), -9);
        due("3 more", x.may(11, 1), -4);
        x.gauge(8, 0, 0);
        due("nearest: least", x.may(7, 0), 0);
        due("nearest: greatest", x.may(7, 1), 8);
        due("nearest: least", x.may(9, 0), -7);
        due("nearest: greatest", x.may(9, 1), 0);
        x.gauge(3, 1, 0);
        due("swell told 0", x.may(3, 2), 0);
        due("swell up to 0", x.may(4, 2), 0);
        x.gauge(9, 1, 6);
        due("own swell, not the greatest", x.may(3, 2), 0);
        due("swell up to the greatest told", x.may(0, 2), 6);
        due("may(-1, 3)", x.may(-1, 3), HIGH + 1);
        due("may(16, 0)", x.may(16, 0), HIGH + 1);
        due("may(0, 3)", x.may(0, 3), HIGH + 2);
        due("may(0, -1)", x.may(0, -1), HIGH + 2);
    }

    private static void safe() {
        SandFlags x = new SandFlags();
        due("none told: doubtful", x.safe(0, 0, 0), 1);
        x.gauge(0, 1, 2);
        for (int tide = -2; tide <= 6; tide++) {
            x.gauge(0, 0, tide);
            due("depth " + tide, x.safe(0, 7, 0), tide >= 0 && tide <= 4 ? 2 : 0);
        }
        x.gauge(0, 0, 2);
        for (int swell = 0; swell <= 9; swell++) {
            x.gauge(0, 1, swell);
            due("swell " + swell, x.safe(0, 7, 0), swell <= 6 ? 2 : 0);
        }
        x.gauge(0, 1, 3);
        x.bank(0, 7, -2);
        due("a rip at it", x.safe(0, 7, 0), 0);
        due("a rip beside it", x.safe(0, 6, 0), 0);
        due("a rip beside it", x.safe(0, 8, 0), 0);
        due("no rip beside it", x.safe(0, 5, 0), 2);
        due("no rip beside it", x.safe(0, 9, 0), 2);
        x.bank(0, 6, -1);
        due("by 1 only: no rip", x.safe(0, 7, 0), 2);
        x.bank(0, 6, 0);
        x.bank(0, 8, -1);
        due("by 1 only on the other side", x.safe(0, 7, 0), 2);
        x.bank(0, 8, 0);
        x.gauge(0, 1, 2);
        due("swell 2: no rip", x.safe(0, 7, 0), 2);
        x.gauge(0, 1, 6);
        x.gauge(0, 0, -1);
        due("depth 1: no rip", x.safe(0, 7, 0), 2);
        x.gauge(0, 0, 0);
        due("depth 2: a rip", x.safe(0, 7, 0), 0);
        x.gauge(0, 0, 2);
        x.bank(0, 0, -2);
        due("a rip at the first cell", x.safe(0, 0, 0), 0);
        due("and beside it", x.safe(0, 1, 0), 0);
        x.bank(0, 23, -2);
        due("a rip at the last cell", x.safe(0, 23, 0), 0);
        due("and beside it", x.safe(0, 22, 0), 0);
        due("another beach", x.safe(1, 23, 0), 2);
        x.gauge(0, 1, 99);
        due("swell up to 9: doubtful", x.safe(1, 3, 0), 1);
        x.gauge(5, 1, 6);
        due("swell up to 6", x.safe(1, 3, 0), 2);
        due("a rip by some swells: doubtful", x.safe(0, 7, 0), 1);
        x.gauge(5, 1, 2);
        due("swell up to 2", x.safe(0, 7, 0), 2);
        x.gauge(5, 1, 7);
        due("swell up to 7: doubtful", x.safe(1, 3, 0), 1);
        SandFlags y = new SandFlags();
        y.gauge(4, 0, 5);
        y.gauge(6, 0, 8);
        y.gauge(5, 1, 0);
        due("bad by all tides", y.safe(2, 2, 5), 0);
        y.gauge(4, 0, 4);
        due("good by one tide", y.safe(2, 2, 5), 1);
        y.gauge(6, 0, 0);
        due("good by all tides", y.safe(2, 2, 5), 2);
        y.gauge(6, 0, -1);
        due("not by the least", y.safe(2, 2, 5), 1);
        due("safe(-1, 0, 0)", y.safe(-1, 0, 0), -1);
        due("safe(4, 0, 0)", y.safe(4, 0, 0), -1);
        due("safe(0, -1, 0)", y.safe(0, -1, 0), -1);
        due("safe(0, 24, 0)", y.safe(0, 24, 0), -1);
        due("safe(0, 0, -1)", y.safe(0, 0, -1), -1);
        due("safe(0, 0, 16)", y.safe(0, 0, 16), -1);
    }

    /** A beach whose cells are safe in hours told here but for those whose bank is too high. */
    private static SandFlags calm(int... hours) {
        SandFlags x = new SandFlags();
        for (int hour : hours) {
            x.gauge(hour, 0, 0);
            x.gauge(hour, 1, 0);
        }
        return x;
    }

    private static void longest() {
        SandFlags x = calm(3);
        due("all: first", x.longest(2, 3, 0), 0);
        due("all: how long", x.longest(2, 3, 1), 24);
        x.bank(2, 5, 1);
        x.bank(2, 11, 1);
        x.bank(2, 17, 1);
        due("of rows of 5, 5, 5 and 6", x.longest(2, 3, 0), 18);
        due("of rows of 5, 5, 5 and 6", x.longest(2, 3, 1), 6);
        x.bank(2, 23, 1);
        due("the first of four", x.longest(2, 3, 0), 0);
        due("the first of four", x.longest(2, 3, 1), 5);
        x.bank(2, 0, 1);
        due("the first of three", x.longest(2, 3, 0), 6);
        x.gauge(3, 0, -1);
        due("none: first", x.longest(2, 3, 0), -9);
        due("none: how long", x.longest(2, 3, 1), 0);
        due("doubtful ones are not safe", x.longest(2, 4, 1), 0);
        due("longest(4, 3, 2)", x.longest(4, 3, 2), -1);
        due("longest(-1, 3, 0)", x.longest(-1, 3, 0), -1);
        due("longest(0, 16, 0)", x.longest(0, 16, 0), -1);
        due("longest(0, -1, 0)", x.longest(0, -1, 0), -1);
        due("longest(0, 3, 2)", x.longest(0, 3, 2), -2);
        due("longest(0, 3, -1)", x.longest(0, 3, -1), -2);
    }

    /** Hours whose tides let other banks be safe each, and none in hour 2. */
    private static SandFlags moving() {
        SandFlags x = calm(0, 1, 2, 3, 4);
        for (int cell = 0; cell < 24; cell++) {
            x.bank(0, cell, 9);
        }
        x.bank(0, 1, -4);
        x.bank(0, 2, -4);
        x.bank(0, 5, 0);
        x.bank(0, 6, 0);
        x.bank(0, 10, 4);
        x.bank(0, 11, 4);
        x.gauge(0, 0, -4);
        x.gauge(1, 0, 0);
        x.gauge(2, 0, -9);
        x.gauge(3, 0, 4);
        x.gauge(4, 0, 8);
        return x;
    }

    private static void flags() {
        SandFlags x = moving();
        // hour 0: cells 1, 2; hour 1: 1, 2, 5, 6; hour 2: none; hour 3: 5, 6, 10, 11; hour 4: 10, 11
        due("one hour", x.flags(0, 0, 0, 2), 0);
        due("staying", x.flags(0, 0, 1, 2), 0);
        due("a move over a shut hour", x.flags(0, 0, 3, 2), 1);
        due("one move for the rest of the day", x.flags(0, 0, 4, 2), 1);
        due("no move behind a shut hour", x.flags(0, 1, 3, 2), 0);
        due("one move", x.flags(0, 1, 4, 2), 1);
        due("the first one set behind a shut hour is no move", x.flags(0, 2, 4, 2), 0);
        due("all shut", x.flags(0, 0, 4, 3), 0);
        due("a stretch of one", x.flags(0, 3, 4, 1), 0);
        x.bank(0, 10, 5);
        x.bank(0, 11, 5);
        due("two moves", x.flags(0, 0, 4, 2), 2);
        SandFlags all = calm(0, 15);
        due("all cells, all hours", all.flags(3, 0, 15, 24), 0);
        due("flags(4, 0, 0, 0)", x.flags(4, 0, 0, 0), -1);
        due("flags(-1, 0, 0, 1)", x.flags(-1, 0, 0, 1), -1);
        due("flags(0, -1, 0, 1)", x.flags(0, -1, 0, 1), -1);
        due("flags(0, 0, 16, 1)", x.flags(0, 0, 16, 1), -1);
        due("flags(0, 16, 16, 1)", x.flags(0, 16, 16, 1), -1);
        due("flags(0, 3, 2, 25)", x.flags(0, 3, 2, 25), -1);
        due("flags(0, 0, 0, 0)", x.flags(0, 0, 0, 0), -4);
        due("flags(0, 0, 0, 25)", x.flags(0, 0, 0, 25), -6);
    }

    private static void flagAt() {
        SandFlags x = moving();
        due("least first, hour 0", x.flagAt(0, 0, 4, 2, 0), 1);
        due("least first, hour 1", x.flagAt(0, 0, 4, 2, 1), 1);
        due("shut", x.flagAt(0, 0, 4, 2, 2), -9);
        due("not the least one, but the fewest moves", x.flagAt(0, 0, 4, 2, 3), 10);
        due("hour 4", x.flagAt(0, 0, 4, 2, 4), 10);
        due("least first, without hour 4", x.flagAt(0, 0, 3, 2, 3), 5);
        due("not the least one, but no move", x.flagAt(0, 1, 3, 2, 1), 5);
        due("not the least one, but no move", x.flagAt(0, 1, 3, 2, 3), 5);
        due("one move, early is least", x.flagAt(0, 1, 4, 2, 1), 1);
        due("one move, then kept", x.flagAt(0, 1, 4, 2, 3), 10);
        due("one cell", x.flagAt(0, 0, 0, 1, 0), 1);
        due("hour ahead of a", x.flagAt(0, 1, 4, 2, 0), -1);
        due("hour behind b", x.flagAt(0, 1, 3, 2, 4), -1);
        due("b ahead of a", x.flagAt(0, 3, 1, 2, 2), -1);
        due("no such beach", x.flagAt(4, 0, 1, 0, 0), -1);
        due("no such hour", x.flagAt(0, 0, 16, 0, 0), -1);
        due("w 0", x.flagAt(0, 0, 1, 0, 0), -4);
        due("w 25", x.flagAt(0, 0, 1, 25, 0), -6);
        SandFlags y = calm(0);
        due("the last stretch of 24", y.flagAt(0, 0, 0, 24, 0), 0);
        y.bank(0, 0, 1);
        due("no 24 now", y.flagAt(0, 0, 0, 24, 0), -9);
        due("23 from 1 on", y.flagAt(0, 0, 0, 23, 0), 1);
    }

    private static void crowd() {
        SandFlags x = new SandFlags();
        due("crowd(3, 15, 999)", x.crowd(3, 15, 999), 0);
        due("crowd(3, 15, 0)", x.crowd(3, 15, 0), 999);
        due("crowd(3, 15, 8)", x.crowd(3, 15, 8), 0);
        due("crowd(4, 0, -1)", x.crowd(4, 0, -1), -1);
        due("crowd(-1, 0, 0)", x.crowd(-1, 0, 0), -1);
        due("crowd(0, 16, 1000)", x.crowd(0, 16, 1000), -1);
        due("crowd(0, -1, 0)", x.crowd(0, -1, 0), -1);
        due("crowd(3, 15, -1)", x.crowd(3, 15, -1), -4);
        due("crowd(3, 15, 1000)", x.crowd(3, 15, 1000), -6);
        due("after refusals", x.crowd(3, 15, 1), 8);
        due("another hour", x.crowd(3, 14, 1), 0);
        due("another beach", x.crowd(2, 15, 1), 0);
    }

    private static void guards() {
        SandFlags x = new SandFlags();
        due("guards(4)", x.guards(4), 0);
        due("guards(0)", x.guards(0), 4);
        due("guards(3)", x.guards(3), 0);
        due("guards(-1)", x.guards(-1), -4);
        due("guards(5)", x.guards(5), -6);
        due("count(1)", x.count(1), 3);
    }

    private static void roster() {
        SandFlags x = new SandFlags();
        x.crowd(0, 0, 5);
        due("no guards", x.roster(0, 0), 60);
        x.guards(1);
        due("by 2", x.roster(0, 0), 30);
        x.guards(2);
        due("by 3", x.roster(0, 0), 20);
        x.guards(3);
        due("by 4", x.roster(0, 0), 15);
        x.guards(4);
        due("by 5", x.roster(0, 0), 12);
        x.crowd(0, 0, 3);
        due("cut", x.roster(0, 0), 7);
        SandFlags y = new SandFlags();
        y.guards(1);
        y.crowd(0, 4, 10);
        y.crowd(0, 5, 10);
        y.crowd(0, 6, 10);
        due("two hours on end", y.roster(4, 5), 120);
        due("then a rest", y.roster(4, 6), 240);
        due("all have rested ahead of a", y.roster(5, 6), 120);
        y.crowd(0, 5, 0);
        due("a rest between", y.roster(4, 6), 120);
        y.crowd(3, 5, 10);
        y.crowd(0, 6, 0);
        due("15 miles: too far", y.roster(4, 5), 180);
        y.mile(3, 10);
        due("10 miles: near", y.roster(4, 5), 120);
        y.mile(3, 11);
        due("11 miles: too far", y.roster(4, 5), 180);
        y.mile(0, 1);
        due("10 miles again", y.roster(4, 5), 120);
        due("six hours", y.roster(4, 9), 120);
        due("seven hours", y.roster(4, 10), -6);
        due("b ahead of a", y.roster(5, 4), -1);
        due("roster(-1, 8)", y.roster(-1, 8), -1);
        due("roster(8, 16)", y.roster(8, 16), -1);
        due("roster(16, 16)", y.roster(16, 16), -1);
        y.days(1);
        due("another day", y.roster(4, 9), 0);
    }

    private static void rosterAt() {
        SandFlags x = new SandFlags();
        x.guards(2);
        // without heads all rosters are of one risk: beach 0 as long as may be
        due("first of all: guard 0, hour 3", x.rosterAt(3, 8, 0, 3), 0);
        due("first of all: guard 1, hour 4", x.rosterAt(3, 8, 1, 4), 0);
        due("the rest behind two hours", x.rosterAt(3, 8, 0, 5), -9);
        due("on again", x.rosterAt(3, 8, 1, 6), 0);
        due("on again", x.rosterAt(3, 8, 1, 7), 0);
        due("rest again", x.rosterAt(3, 8, 1, 8), -9);
        x.crowd(1, 3, 100);
        x.crowd(2, 3, 90);
        due("guard 0 at the lesser number", x.rosterAt(3, 3, 0, 3), 1);
        due("guard 1 at the other", x.rosterAt(3, 3, 1, 3), 2);
        x.crowd(2, 3, 10);
        due("both at one", x.rosterAt(3, 3, 1, 3), 1);
        x.crowd(1, 3, 0);
        x.crowd(2, 3, 0);
        x.crowd(3, 5, 60);
        due("kept fresh: guard 0 at 0 in hour 3", x.rosterAt(3, 5, 0, 3), 0);
        due("guard 0 rests in hour 4", x.rosterAt(3, 5, 0, 4), -9);
        due("guard 0 at 3 in hour 5", x.rosterAt(3, 5, 0, 5), 3);
        due("no such guard", x.rosterAt(3, 5, 2, 3), -1);
        due("no such guard", x.rosterAt(3, 5, -1, 3), -1);
        due("hour ahead", x.rosterAt(3, 5, 0, 2), -1);
        due("hour behind", x.rosterAt(3, 5, 0, 6), -1);
        due("b ahead of a", x.rosterAt(5, 3, 0, 4), -1);
        due("no such hour", x.rosterAt(12, 16, 0, 13), -1);
        due("no such guard ahead of too long", x.rosterAt(0, 6, 2, 3), -1);
        due("too long", x.rosterAt(0, 6, 0, 3), -6);
        due("ten miles: guard 0 in hour 3 nearer", x.mile(3, 10), 15);
        due("goes on over ten miles", x.rosterAt(4, 5, 0, 4), 0);
        due("goes on over ten miles", x.rosterAt(4, 5, 0, 5), 3);
        x.guards(0);
        due("no guards", x.rosterAt(3, 5, 0, 3), -1);
    }

    /** A beach with a rip at cell 5 and one at cell 12 in hour 0. */
    private static SandFlags ripping() {
        SandFlags x = new SandFlags();
        x.gauge(0, 0, 3);
        x.gauge(0, 1, 3);
        x.bank(1, 5, -2);
        x.bank(1, 12, -2);
        return x;
    }

    private static void water() {
        SandFlags x = ripping();
        due("water(1, 0, 4)", x.water(1, 0, 4), 1);
        x.bather(5, 0);
        x.bather(4, 3);
        x.gauge(0, 1, 0);
        x.bank(1, 5, 0);
        x.minutes(1);
        due("rips as they were when told", x.batherOf(0, 0), 2);
        due("no rip beside", x.batherOf(1, 0), 2);
        due("told again", x.water(1, 0, 0), 1);
        due("without bathers", x.count(2), 0);
        due("without bathers", x.batherOf(0, 0), -1);
        x.bather(5, 3);
        due("at minute 0", x.minutes(1), 1);
        due("no rip now", x.batherOf(0, 0), 2);
        SandFlags y = new SandFlags();
        y.bank(0, 3, -9);
        y.bank(0, 8, 5);
        y.bank(0, 7, 9);
        y.bank(0, 9, 9);
        y.water(0, 7, 0);
        y.bather(3, 0);
        y.bather(8, 0);
        y.minutes(1);
        due("missing ones as the greatest", y.batherOf(0, 0), 2);
        due("missing ones as the greatest", y.batherOf(1, 0), 2);
        y.gauge(6, 0, 2);
        y.water(0, 7, 0);
        y.bather(8, 0);
        y.minutes(1);
        due("tide 5 at most: depth 0", y.batherOf(0, 0), 0);
        y.gauge(6, 1, 2);
        y.water(0, 7, 0);
        y.bather(3, 0);
        y.minutes(1);
        due("swell 2 at most: no rip", y.batherOf(0, 0), 0);
        y.water(0, 7, 1);
        y.bather(0, 10);
        y.minutes(1);
        y.days(1);
        due("a day leaves the water", y.minutes(1), 2);
        due("water(-1, 0, 5)", y.water(-1, 0, 5), -1);
        due("water(4, 0, 0)", y.water(4, 0, 0), -1);
        due("water(0, -1, 0)", y.water(0, -1, 0), -1);
        due("water(0, 16, -1)", y.water(0, 16, -1), -1);
        due("water(0, 0, -1)", y.water(0, 0, -1), -4);
        due("water(0, 0, 5)", y.water(0, 0, 5), -6);
        due("refusals leave the water", y.minutes(1), 3);
        due("refusals leave the bathers", y.count(2), 1);
    }

    private static void set() {
        SandFlags x = new SandFlags();
        due("set(0, 1)", x.set(0, 1), 24);
        due("set(0, 24)", x.set(0, 24), 1);
        due("set(1, 60)", x.set(1, 60), 10);
        due("set(1, 1)", x.set(1, 1), 60);
        due("set(2, 0)", x.set(2, 0), -2);
        due("set(-1, 99)", x.set(-1, 99), -2);
        due("set(0, 0)", x.set(0, 0), -4);
        due("set(1, 0)", x.set(1, 0), -4);
        due("set(0, 25)", x.set(0, 25), -6);
        due("set(1, 61)", x.set(1, 61), -6);
        due("set(0, 24)", x.set(0, 24), 24);
        due("set(1, 1)", x.set(1, 1), 1);
        x.set(1, 60);
        x.water(0, 0, 0);
        x.set(0, 7);
        // by 7: cells 0-2, 3-5, 6-9, 10-12, 13-16, 17-19, 20-23
        int[] seenAt = {0, 0, 0, 1, 1, 1, 2, 2, 2, 2, 3, 3, 3, 4, 4, 4, 4, 5, 5, 5};
        for (int cell = 0; cell < 20; cell++) {
            x.bather(cell, 20);
        }
        x.minutes(7);
        for (int cell = 0; cell < 20; cell++) {
            due("sweep 7, cell " + cell, x.batherOf(cell, 2), seenAt[cell]);
            due("sweep 7, cell " + cell, x.batherOf(cell, 1), 2);
        }
        x.water(0, 0, 0);
        x.bather(23, 9);
        x.minutes(7);
        due("sweep 7, cell 23", x.batherOf(0, 1), 2);
        due("sweep 7, cell 23", x.batherOf(0, 2), 6);
    }

    private static void bather() {
        SandFlags x = new SandFlags();
        due("no water", x.bather(-1, -1), -5);
        x.water(0, 0, 0);
        due("bather(-1, -1)", x.bather(-1, -1), -1);
        due("bather(24, 31)", x.bather(24, 31), -1);
        due("bather(0, -1)", x.bather(0, -1), -4);
        due("bather(0, 31)", x.bather(0, 31), -6);
        for (int i = 0; i < 20; i++) {
            due("bather " + i, x.bather(i, i + 11), i);
        }
        due("the 21st", x.bather(0, 0), -6);
        due("the 21st, below", x.bather(0, -1), -4);
        due("OUT as told", x.batherOf(19, 0), 30);
        due("well at first", x.batherOf(19, 1), 0);
        due("0 at first", x.batherOf(19, 2), 0);
        due("count(2)", x.count(2), 20);
        x.water(0, 0, 0);
        x.minutes(9);
        due("numbers from 0 on again", x.bather(3, 5), 0);
        due("0 at first, in minute 9 too", x.batherOf(0, 2), 0);
    }

    private static void minutes() {
        SandFlags x = ripping();
        due("no water", x.minutes(0), -5);
        x.water(1, 0, 0);
        due("minutes(0)", x.minutes(0), -4);
        due("minutes(201)", x.minutes(201), -6);
        due("minutes(GREATEST_INT)", x.minutes(GREATEST_INT), -6);
        due("minutes(LEAST_INT)", x.minutes(LEAST_INT), -4);
        due("minutes(150)", x.minutes(150), 150);
        due("minutes(51)", x.minutes(51), -6);
        due("minutes(50)", x.minutes(50), 200);
        due("minutes(1)", x.minutes(1), -6);
        due("a new water", x.water(1, 0, 1), 1);
        x.set(0, 1);
        due("at the tower, in a rip", x.bather(12, 4), 0);
        due("at cell 1", x.bather(1, 9), 1);
        x.minutes(1);
        due("OUT 6: gone for", x.batherOf(0, 1), 3);
        due("OUT 8: seen, no guard free", x.batherOf(1, 1), 2);
        due("1 less and then in trouble", x.batherOf(1, 0), 8);
        x.minutes(1);
        due("carried on while gone for", x.batherOf(0, 0), 8);
        due("the way was told by OUT 6: not reached yet", x.batherOf(0, 1), 3);
        x.minutes(1);
        due("reached in minute 2", x.batherOf(0, 1), 4);
        due("reached in minute 2", x.batherOf(0, 2), 2);
        due("saved ahead of the rip", x.batherOf(0, 0), 8);
        due("in trouble OUT stays", x.batherOf(1, 0), 8);
        x.minutes(1);
        due("not free in minute 3", x.batherOf(1, 1), 2);
        x.minutes(1);
        due("free in minute 4", x.batherOf(1, 1), 3);
        due("free in minute 4", x.batherOf(1, 2), 4);
        x.minutes(5);
        due("9 minutes' way, trouble since 0", x.batherOf(1, 1), 3);
        x.minutes(1);
        due("lost in minute 10", x.batherOf(1, 1), 5);
        due("lost in minute 10", x.batherOf(1, 2), 10);
        due("one comes later", x.bather(12, 30), 2);
        x.minutes(11);
        due("the guard goes on as told, free in 22", x.batherOf(2, 1), 5);
        due("one comes later still", x.bather(12, 30), 3);
        x.minutes(1);
        due("free in minute 22", x.batherOf(3, 1), 3);
        due("OUT is 30 at most", x.batherOf(3, 0), 30);
        due("saved", x.count(3), 1);
        due("lost", x.count(4), 2);
        savedAheadOfLost();
        wellOnesComeIn();
        manyGuards();
    }

    private static void savedAheadOfLost() {
        SandFlags x = new SandFlags();
        x.water(0, 0, 1);
        x.set(0, 1);
        x.set(1, 6);
        x.bather(12, 19);
        x.minutes(6);
        due("OUT 18: way 6", x.batherOf(0, 1), 3);
        x.minutes(1);
        due("reached in the minute in which it would be lost", x.batherOf(0, 1), 4);
        SandFlags y = new SandFlags();
        y.water(0, 0, 1);
        y.set(0, 1);
        y.set(1, 1);
        y.bather(12, 19);
        y.minutes(1);
        due("in trouble since now", y.batherOf(0, 1), 3);
        y.minutes(1);
        due("LONG 1", y.batherOf(0, 1), 5);
        due("LONG 1", y.batherOf(0, 2), 1);
        y.minutes(9);
        due("never saved", y.batherOf(0, 1), 5);
        due("out of the water", y.batherOf(0, 0), 18);
    }

    private static void wellOnesComeIn() {
        SandFlags x = new SandFlags();
        x.water(0, 0, 1);
        x.bather(0, 6);
        x.bather(0, 0);
        x.bather(0, 7);
        x.minutes(1);
        due("6 less 1: well", x.batherOf(0, 1), 0);
        due("0 stays 0", x.batherOf(1, 0), 0);
        due("7 less 1: in trouble, seen, gone for", x.batherOf(2, 1), 3);
        x.minutes(5);
        due("in at last", x.batherOf(0, 0), 0);
        x.minutes(1);
        due("not below 0", x.batherOf(0, 0), 0);
    }

    private static void manyGuards() {
        SandFlags x = new SandFlags();
        x.water(0, 0, 4);
        x.set(0, 1);
        for (int i = 0; i < 5; i++) {
            x.bather(23, 8);
        }
        x.minutes(1);
        due("the fourth", x.batherOf(3, 1), 3);
        due("the fifth waits", x.batherOf(4, 1), 2);
        x.minutes(9);
        // OUT 7: 3, cells 11: 6
        due("reached in minute 9", x.batherOf(3, 1), 4);
        due("reached in minute 9", x.batherOf(3, 2), 9);
        due("still waiting", x.batherOf(4, 1), 2);
    }

    private static void batherOf() {
        SandFlags x = ripping();
        due("no water", x.batherOf(0, 9), -5);
        x.water(1, 0, 1);
        due("no bather", x.batherOf(0, 9), -1);
        x.bather(5, 3);
        due("batherOf(-1, 0)", x.batherOf(-1, 0), -1);
        due("batherOf(1, 0)", x.batherOf(1, 0), -1);
        due("batherOf(0, 3)", x.batherOf(0, 3), -2);
        due("batherOf(0, -1)", x.batherOf(0, -1), -2);
        due("OUT", x.batherOf(0, 0), 3);
        x.minutes(2);
        due("in trouble", x.batherOf(0, 1), 1);
        due("in minute 1", x.batherOf(0, 2), 1);
        x.minutes(4);
        due("seen and gone for", x.batherOf(0, 1), 3);
        due("in minute 5", x.batherOf(0, 2), 5);
        due("OUT", x.batherOf(0, 0), 15);
        x.minutes(5);
        due("not reached yet", x.batherOf(0, 1), 3);
        x.minutes(1);
        due("lost 10 minutes behind 1", x.batherOf(0, 1), 5);
        due("in minute 11", x.batherOf(0, 2), 11);
        due("OUT", x.batherOf(0, 0), 27);
    }

    private static void parts() {
        SandFlags x = new SandFlags();
        due("parts(0, 1000000)", x.parts(0, 1000000), 0);
        due("parts(31, 0)", x.parts(31, 0), 0);
        due("parts(0, 5)", x.parts(0, 5), 1000000);
        due("parts(1, 6)", x.parts(1, 6), 0);
        due("one search", x.now(0, true), 11);
        due("parts(-1, -1)", x.parts(-1, -1), -1);
        due("parts(32, 1000001)", x.parts(32, 1000001), -1);
        due("parts(1, -1)", x.parts(1, -1), -4);
        due("parts(1, 1000001)", x.parts(1, 1000001), -6);
        x.drifts();
        due("refused: the search goes on", x.parts(1, -1), -4);
        due("refused: the search goes on", x.now(0, true), 44);
        due("what was told for the search ahead", x.parts(1, 2), 6);
        due("a new search", x.now(0, true), 2);
        due("a new search", x.count(9), 0);
        due("it became 0", x.parts(0, 3), 0);
        due("no newer search", x.now(0, true), 5);
        x.look(0, 1);
        due("behind a look", x.parts(0, 4), 3);
        due("behind a look", x.now(0, true), 4);
        due("it became 0", x.parts(1, 4), 0);
    }

    private static void drift() {
        SandFlags x = new SandFlags();
        due("drift(0, 0, 4)", x.drift(0, 0, 4), 1);
        due("drift(1, 2, 1)", x.drift(1, 2, 1), 1);
        due("drift(-1, 5, 0)", x.drift(-1, 5, 0), -4);
        due("drift(5, -1, 0)", x.drift(5, -1, 0), -4);
        due("drift(5, 0, -1)", x.drift(5, 0, -1), -4);
        due("drift(5, 0, 0)", x.drift(5, 0, 0), -6);
        due("drift(0, 5, 0)", x.drift(0, 5, 0), -6);
        due("drift(0, 0, 5)", x.drift(0, 0, 5), -6);
        due("drift(1, 1, 1)", x.drift(1, 1, 1), -3);
        due("drift(2, 2, 1)", x.drift(2, 2, 1), -3);
        due("drift(0, 0, 0)", x.drift(0, 0, 0), -3);
        due("drift of extremes", x.drift(GREATEST_INT, GREATEST_INT, 6), -6);
        x.parts(7, 1);
        x.drifts();
        due("refused: as before", x.now(6, false), 1);
        due("refused: as before", x.now(7, false), 2);
        due("refused: as before", x.now(8, false), 1);
    }

    private static void drifts() {
        SandFlags x = new SandFlags();
        due("no parts", x.drifts(), -5);
        x.parts(5, 0);
        due("parts of 0", x.drifts(), -5);
        x.drift(1, 0, 3);
        x.parts(0, 10);
        x.parts(31, 100);
        x.parts(9, 1000);
        due("a minute", x.drifts(), 1);
        due("beyond the left end", x.now(0, false), 10);
        due("from 0 to the right", x.now(1, false), 30);
        due("beyond the right end", x.now(31, false), 300);
        due("from 31 to the left", x.now(30, false), 100);
        due("to the left", x.now(8, false), 1000);
        due("none stays", x.now(9, false), 0);
        due("to the right", x.now(10, false), 3000);
        due("4 times as many", x.now(0, true), 4440);
        for (int i = 2; i <= 10; i++) {
            due("minute " + i, x.drifts(), i);
        }
        due("the 11th", x.drifts(), -6);
        due("4 to the 10th times as many", x.now(0, true), 1110L << 20);
        x.parts(9, 1);
        due("a new search", x.drifts(), 1);
    }

    private static void look() {
        SandFlags x = new SandFlags();
        due("look(-1, 9)", x.look(-1, 9), -1);
        due("look(32, 0)", x.look(32, 0), -1);
        due("no parts", x.look(0, 0), -5);
        x.parts(3, 10);
        x.parts(4, 20);
        due("look(3, 0)", x.look(3, 0), -4);
        due("look(3, 9)", x.look(3, 9), -6);
        due("look(3, 1)", x.look(3, 1), 1);
        due("its own", x.now(3, false), 70);
        due("another", x.now(4, false), 160);
        due("look(4, 8)", x.look(4, 8), 2);
        due("none left", x.now(4, false), 0);
        due("another", x.now(3, false), 560);
        for (int i = 3; i <= 10; i++) {
            due("look " + i, i % 2 == 0 ? x.drifts() : x.look(0, 8), i);
        }
        due("the 11th: below ahead of it", x.look(3, 0), -4);
        due("the 11th", x.look(3, 1), -6);
        due("the 11th", x.drifts(), -6);
        SandFlags y = new SandFlags();
        for (int place = 0; place < 32; place++) {
            y.parts(place, 1000000);
        }
        for (int i = 1; i <= 10; i++) {
            due("great looks", y.look(0, 1), i);
        }
        due("great parts", y.now(31, false), 1000000L << 30);
        due("great parts of all", y.now(31, true), 31 * (1000000L << 30) + 1000000L * 282475249L);
    }

    private static int thrownBy(SandFlags x, int place) {
        try {
            x.now(place, false);
        } catch (IllegalArgumentException e) {
            return 1;
        }
        return 0;
    }

    private static void now() {
        SandFlags x = new SandFlags();
        due("now(-1, false) throws", thrownBy(x, -1), 1);
        due("now(32, false) throws", thrownBy(x, 32), 1);
        due("now(LEAST_INT, false) throws", thrownBy(x, LEAST_INT), 1);
        due("now(0, false) throws", thrownBy(x, 0), 0);
        due("now(31, false) throws", thrownBy(x, 31), 0);
        due("of all, place counts nothing", x.now(-1, true), 0);
        x.parts(0, 4);
        x.parts(31, 5);
        due("now(0, false)", x.now(0, false), 4);
        due("now(31, false)", x.now(31, false), 5);
        due("now(1, false)", x.now(1, false), 0);
        due("now(99, true)", x.now(99, true), 9);
        due("a throw is no refusal", x.count(11), 0);
    }

    private static void boat() {
        SandFlags x = new SandFlags();
        due("boat(31)", x.boat(31), 0);
        due("boat(32)", x.boat(32), -1);
        due("boat(-1)", x.boat(-1), -1);
        due("boat(0)", x.boat(0), 31);
        due("boat(7)", x.boat(7), 0);
        x.parts(20, 1);
        x.parts(20, 1);
        x.drifts();
        due("seek leaves the boat", x.seek(1, 1, 0), 4);
        due("boat(7)", x.boat(7), 7);
    }

    private static void seek() {
        SandFlags x = new SandFlags();
        due("m 0 ahead of q 9", x.seek(0, 9, -1), -4);
        due("q 0 ahead of m 4", x.seek(4, 0, -1), -4);
        due("m 4", x.seek(4, 1, -1), -6);
        due("q 9", x.seek(1, 9, -1), -6);
        due("no parts", x.seek(1, 1, -1), -5);
        x.parts(6, 10);
        x.parts(2, 9);
        due("i -1", x.seek(2, 1, -1), -1);
        due("i 2", x.seek(2, 1, 2), -1);
        due("3 places at most", x.seek(1, 1, 0), 2);
        due("to the greater in the end", x.seek(2, 8, 0), 3);
        due("to the greater in the end", x.seek(2, 8, 1), 6);
        due("by way of another", x.seek(3, 8, 0), 2);
        due("by way of another", x.seek(3, 8, 1), 3);
        due("by way of another", x.seek(3, 8, 2), 6);
        x.boat(4);
        due("the greater", x.seek(1, 1, 0), 6);
        x.parts(2, 10);
        due("of equal ones the least", x.seek(1, 1, 0), 2);
        x.boat(31);
        due("nothing in reach: the least", x.seek(1, 8, 0), 28);
        due("nothing in reach: the least", x.seek(2, 8, 1), 25);
        x.drift(0, 0, 4);
        x.parts(30, 50);
        due("drifts on after the look", x.seek(2, 4, 0), 30);
        due("drifts on after the look", x.seek(2, 4, 1), 31);
        for (int i = 0; i < 4; i++) {
            x.drifts();
        }
        due("six more are ten", x.seek(3, 1, 3), -1);
        x.drifts();
        due("six more are eleven, i told last", x.seek(3, 1, 3), -6);
        due("four more", x.seek(2, 1, 2), -1);
    }

    private static void chance() {
        SandFlags x = new SandFlags();
        due("m 0 ahead of q 9", x.chance(0, 9), -4);
        due("q 0 ahead of m 4", x.chance(4, 0), -4);
        due("m 4", x.chance(4, 1), -6);
        due("q 9", x.chance(3, 9), -6);
        due("no parts", x.chance(3, 8), -5);
        x.parts(0, 1);
        due("all of it", x.chance(1, 8), 1000000);
        due("an eighth", x.chance(1, 1), 125000);
        due("and of seven eighths an eighth", x.chance(2, 1), 234375);
        due("and again, cut", x.chance(3, 1), 330078);
        x.parts(2, 2);
        due("two thirds, cut", x.chance(1, 8), 666666);
        due("all, in two", x.chance(2, 8), 1000000);
        x.boat(31);
        due("nothing in reach", x.chance(3, 8), 0);
        for (int i = 0; i < 4; i++) {
            x.look(20, 1);
        }
        due("six more are ten", x.chance(3, 8), 0);
        x.look(20, 1);
        due("six more are eleven", x.chance(3, 8), -6);
        due("four more are nine", x.chance(2, 8), 0);
        for (int i = 0; i < 4; i++) {
            x.look(20, 1);
        }
        due("two more are eleven", x.chance(1, 8), -6);
        due("nothing was made by it", x.count(9), 9);
        SandFlags y = new SandFlags();
        for (int place = 0; place < 32; place++) {
            y.parts(place, 1000000);
        }
        for (int i = 0; i < 8; i++) {
            y.look(31, 1);
        }
        // 31 places of 8 to the 8th, one of 7 to the 8th
        due("great parts", y.chance(1, 8), 1000000L * 16777216L / (31L * 16777216L + 5764801L));
    }

    private static void child() {
        SandFlags x = new SandFlags();
        due("child(false, -1)", x.child(false, -1), -4);
        due("child(true, 100000)", x.child(true, 100000), -6);
        for (int i = 0; i < 8; i++) {
            due("lost " + i, x.child(false, 99999), i);
        }
        due("the ninth", x.child(false, 0), -6);
        due("the ninth, below", x.child(false, -1), -4);
        for (int i = 0; i < 8; i++) {
            due("found " + i, x.child(true, 0), i);
        }
        due("the ninth", x.child(true, 0), -6);
        due("count(7)", x.count(7), 8);
        due("count(8)", x.count(8), 8);
    }

    private static void joins() {
        SandFlags x = new SandFlags();
        due("joins(0)", x.joins(0), 0);
        due("joins(1)", x.joins(1), 0);
        due("joins(2)", x.joins(2), -2);
        due("joins(-1)", x.joins(-1), -2);
        x.child(false, 0);
        x.child(true, 111);
        due("unlike by 3", x.joins(0), 0);
        x.child(true, 10001);
        due("unlike by 2", x.joins(0), 1);
        due("unlike by 2", x.joins(1), 2);
        x.child(false, 10000);
        // lost 1 is unlike found 1 by 1 and found 0 by 4: the one for lost 0 would be 2
        due("the least together", x.joins(0), 1);
        due("the least together", x.joins(1), 1);
        x.child(true, 22);
        due("the most", x.joins(0), 2);
        due("the most", x.joins(1), 3);
        SandFlags y = new SandFlags();
        for (int i = 0; i < 8; i++) {
            y.child(false, 11111 * i);
            y.child(true, 11111 * i + (i % 2 == 0 ? 1 : 0));
        }
        due("all", y.joins(0), 8);
        due("all", y.joins(1), 4);
    }

    private static void joined() {
        SandFlags x = new SandFlags();
        due("joined(0)", x.joined(0), -1);
        x.child(false, 5);
        due("joined(0)", x.joined(0), -9);
        x.child(false, 5);
        x.child(false, 5);
        x.child(true, 7);
        due("the first of three", x.joined(0), 0);
        due("the second", x.joined(1), -9);
        x.child(true, 6);
        due("least by numbers", x.joined(0), 0);
        due("least by numbers", x.joined(1), 1);
        due("none for the third", x.joined(2), -9);
        x.child(true, 5);
        due("least by numbers", x.joined(2), 2);
        x.child(true, 5);
        due("the least together", x.joined(0), 0);
        due("the least together", x.joined(1), 2);
        due("the least together", x.joined(2), 3);
        due("joined(-1)", x.joined(-1), -1);
        due("joined(3)", x.joined(3), -1);
        SandFlags y = new SandFlags();
        y.child(false, 0);
        y.child(false, 99);
        y.child(true, 99);
        y.child(true, 999);
        due("the most goes ahead of the least together", y.joined(0), 0);
        due("the most goes ahead of the least together", y.joined(1), 1);
    }

    private static void sure() {
        SandFlags x = new SandFlags();
        due("sure(0)", x.sure(0), -1);
        x.child(false, 12345);
        due("none", x.sure(0), 0);
        due("sure(-1)", x.sure(-1), -1);
        due("sure(1)", x.sure(1), -1);
        x.child(true, 12346);
        due("only two", x.sure(0), 1);
        x.child(true, 12399);
        due("another found one, more unlike", x.sure(0), 1);
        x.child(true, 12347);
        due("another found one, as little", x.sure(0), 0);
        SandFlags y = new SandFlags();
        y.child(false, 12345);
        y.child(true, 12346);
        y.child(false, 22336);
        due("another lost one, more unlike", y.sure(0), 1);
        y.child(false, 12347);
        due("another lost one, as little", y.sure(0), 0);
        due("not joined", y.sure(2), 0);
        y.child(true, 12347);
        due("joined to its like", y.sure(2), 1);
        due("a joined other one counts too", y.sure(0), 0);
    }

    private static void report() {
        SandFlags x = new SandFlags();
        due("report(-1, -1, 0)", x.report(-1, -1, 0), -1);
        due("report(4, 0, 0)", x.report(4, 0, 0), -1);
        due("report(0, 960, -1)", x.report(0, 960, -1), -1);
        due("report(0, -1, 24)", x.report(0, -1, 24), -1);
        due("report(0, -1, 0)", x.report(0, -1, 0), -4);
        due("report(0, 960, 0)", x.report(0, 960, 0), -6);
        for (int i = 0; i < 40; i++) {
            due("report " + i, x.report(i % 4, i == 0 ? 959 : 0, 23), i);
        }
        due("the 41st, below", x.report(0, -1, 0), -4);
        due("the 41st", x.report(0, 0, 0), -6);
        due("count(5)", x.count(5), 40);
        x.days(1);
        due("a day leaves reports", x.count(5), 40);
        due("a day leaves rescues", x.rescues(0), 2);
    }

    private static void rescues() {
        SandFlags x = new SandFlags();
        x.report(2, 100, 10);
        due("one", x.rescues(2), 1);
        x.report(2, 105, 13);
        due("5 minutes and 3 cells", x.rescues(2), 1);
        x.report(2, 111, 13);
        due("6 minutes", x.rescues(2), 2);
        x.report(2, 105, 17);
        due("4 cells", x.rescues(2), 3);
        x.report(1, 108, 15);
        due("another beach", x.rescues(2), 3);
        due("another beach", x.rescues(1), 1);
        x.report(2, 108, 15);
        due("a third one joins them all", x.rescues(2), 1);
        due("none", x.rescues(0), 0);
        due("rescues(-1)", x.rescues(-1), -1);
        due("rescues(4)", x.rescues(4), -1);
    }

    private static void rescue() {
        SandFlags x = new SandFlags();
        x.report(3, 500, 0);
        x.report(3, 400, 20);
        x.report(3, 400, 10);
        x.report(3, 405, 10);
        x.report(2, 1, 0);
        due("by first minutes", x.rescue(3, 0), 400);
        due("by first minutes", x.rescue(3, 1), 400);
        due("by first minutes", x.rescue(3, 2), 500);
        due("none such", x.rescue(3, 3), -9);
        due("none such", x.rescue(3, -1), -9);
        x.report(3, 495, 1);
        due("an earlier report of it", x.rescue(3, 2), 495);
        x.report(3, 397, 7);
        due("an earlier report of the other", x.rescue(3, 0), 397);
        due("an earlier report of the other", x.rescue(3, 1), 400);
        x.report(3, 399, 15);
        due("one more, set between", x.rescue(3, 1), 399);
        due("one more, set between", x.rescue(3, 3), 495);
        due("another beach", x.rescue(2, 0), 1);
        due("another beach", x.rescue(2, 1), -9);
        due("rescue(-1, 0)", x.rescue(-1, 0), -1);
        due("rescue(4, 0)", x.rescue(4, 0), -1);
    }

    private static void rule() {
        SandFlags x = new SandFlags();
        due("below ahead of above", x.rule(301, 1000, 1000, 1000, 0), -4);
        due("below ahead of above", x.rule(-1, 1000, 0, 0, 5), -4);
        due("swell below", x.rule(0, -1, 0, 0, 5), -4);
        due("heads below", x.rule(0, 0, -1, 0, 5), -4);
        due("jellies below", x.rule(0, 0, 0, -1, 5), -4);
        due("a day above", x.rule(301, 0, 0, 0, 1), -6);
        due("swell above", x.rule(0, 1000, 0, 0, 1), -6);
        due("heads above", x.rule(0, 0, 1000, 0, 1), -6);
        due("jellies above", x.rule(0, 0, 0, 1000, 1), -6);
        due("colour above", x.rule(0, 0, 0, 0, 5), -6);
        due("a rule", x.rule(300, 999, 999, 999, 4), 0);
        x.days(7);
        due("a day ahead of now", x.rule(6, 0, 0, 0, 1), -4);
        due("now", x.rule(7, 0, 0, 0, 1), 1);
        for (int i = 2; i < 20; i++) {
            due("rule " + i, x.rule(8, 0, 0, 0, 2), i);
        }
        due("the 21st, below", x.rule(6, 0, 0, 0, 1), -4);
        due("the 21st", x.rule(8, 0, 0, 0, 1), -6);
        due("count(6)", x.count(6), 20);
        due("in force", x.colour(0, 0), 1);
        x.days(1);
        due("in force from a day on", x.colour(0, 0), 2);
    }

    private static void jelly() {
        SandFlags x = new SandFlags();
        due("jelly(3, 15, 999)", x.jelly(3, 15, 999), 0);
        due("jelly(3, 15, 0)", x.jelly(3, 15, 0), 999);
        due("jelly(3, 15, 2)", x.jelly(3, 15, 2), 0);
        due("jelly(-1, 0, -1)", x.jelly(-1, 0, -1), -1);
        due("jelly(4, 0, 0)", x.jelly(4, 0, 0), -1);
        due("jelly(0, -1, 1000)", x.jelly(0, -1, 1000), -1);
        due("jelly(0, 16, 0)", x.jelly(0, 16, 0), -1);
        due("jelly(3, 15, -1)", x.jelly(3, 15, -1), -4);
        due("jelly(3, 15, 1000)", x.jelly(3, 15, 1000), -6);
        due("after refusals", x.jelly(3, 15, 0), 2);
        due("crowds are others", x.crowd(3, 15, 0), 0);
    }

    private static void colour() {
        SandFlags x = new SandFlags();
        due("no rules", x.colour(3, 15), 0);
        x.rule(0, 5, 10, 20, 3);
        x.gauge(9, 1, 5);
        x.crowd(2, 9, 10);
        x.jelly(2, 6, 999);
        x.jelly(2, 7, 7);
        x.jelly(2, 8, 7);
        x.jelly(2, 9, 6);
        x.jelly(2, 10, 999);
        due("all met", x.colour(2, 9), 3);
        x.gauge(9, 1, 4);
        due("swell not met", x.colour(2, 9), 0);
        x.gauge(9, 1, 99);
        due("swell as the greatest", x.colour(2, 9), 3);
        x.gauge(0, 1, 4);
        due("swell up to the greatest told", x.colour(2, 9), 0);
        x.gauge(0, 1, 6);
        due("swell up to the greatest told", x.colour(2, 9), 3);
        x.crowd(2, 9, 9);
        due("heads not met", x.colour(2, 9), 0);
        x.crowd(2, 9, 11);
        x.jelly(2, 9, 5);
        due("jellies not met", x.colour(2, 9), 0);
        x.jelly(2, 7, 8);
        due("jellies of two hours ahead", x.colour(2, 9), 3);
        x.rule(0, 0, 0, 0, 2);
        due("the greatest", x.colour(2, 9), 3);
        x.rule(0, 0, 0, 0, 4);
        due("the greatest", x.colour(2, 9), 4);
        due("another beach", x.colour(1, 9), 4);
        due("the first hour", x.colour(1, 0), 4);
        due("colour(-1, 0)", x.colour(-1, 0), -1);
        due("colour(4, 0)", x.colour(4, 0), -1);
        due("colour(0, -1)", x.colour(0, -1), -1);
        due("colour(0, 16)", x.colour(0, 16), -1);
    }

    private static void days() {
        SandFlags x = new SandFlags();
        due("days(-1)", x.days(-1), -4);
        due("days(LEAST_INT)", x.days(LEAST_INT), -4);
        due("days(301)", x.days(301), -6);
        due("days(GREATEST_INT)", x.days(GREATEST_INT), -6);
        x.gauge(3, 0, 1);
        x.gauge(3, 1, 1);
        x.crowd(1, 3, 1);
        x.jelly(1, 3, 1);
        x.bank(1, 3, 1);
        x.mile(1, 3);
        x.drawn(1, 3, 1);
        x.guards(2);
        due("days(0): none passes", x.days(0), 0);
        due("all is as told", x.gauge(3, 0, 1), 1);
        due("days(2)", x.days(2), 2);
        due("tide", x.gauge(3, 0, 1), 99);
        due("swell", x.gauge(3, 1, 1), 99);
        due("crowds", x.crowd(1, 3, 1), 0);
        due("jellies", x.jelly(1, 3, 1), 0);
        due("banks stay", x.bank(1, 3, 1), 1);
        due("miles stay", x.mile(1, 3), 3);
        due("drawn cells stay", x.counted(1, 1), 1);
        due("guards stay", x.count(1), 2);
        due("days(299)", x.days(299), -6);
        due("refused: all is as told", x.gauge(3, 0, 1), 1);
        due("days(298)", x.days(298), 300);
        due("days(1)", x.days(1), -6);
        due("count(0)", x.count(0), 300);
    }

    private static void drawn() {
        SandFlags x = new SandFlags();
        due("drawn(3, 23, 0)", x.drawn(3, 23, 0), 1);
        due("drawn(3, 0, 30)", x.drawn(3, 0, 30), 2);
        due("told again", x.drawn(3, 0, 29), 2);
        due("not drawn any more", x.drawn(3, 23, -1), 1);
        due("not drawn at all", x.drawn(3, 22, -1), 1);
        due("another beach", x.drawn(2, 0, 1), 1);
        due("drawn(-1, 0, -2)", x.drawn(-1, 0, -2), -1);
        due("drawn(4, 0, 0)", x.drawn(4, 0, 0), -1);
        due("drawn(0, -1, 31)", x.drawn(0, -1, 31), -1);
        due("drawn(0, 24, 0)", x.drawn(0, 24, 0), -1);
        due("drawn(3, 0, -2)", x.drawn(3, 0, -2), -4);
        due("drawn(3, 0, 31)", x.drawn(3, 0, 31), -6);
        due("after refusals", x.counted(3, 1), 29);
        due("none", x.drawn(3, 0, -1), 0);
    }

    private static void counted() {
        SandFlags x = new SandFlags();
        due("counted(-1, 3)", x.counted(-1, 3), -1);
        due("counted(4, 0)", x.counted(4, 0), -1);
        due("counted(0, 3)", x.counted(0, 3), -2);
        due("counted(0, -1)", x.counted(0, -1), -2);
        due("counted(0, 0)", x.counted(0, 0), -5);
        x.drawn(0, 0, 1);
        x.drawn(0, 7, 2);
        x.drawn(0, 23, 2);
        x.drawn(0, 22, 0);
        x.drawn(0, 21, 0);
        x.drawn(0, 20, 0);
        x.drawn(0, 19, 0);
        due("estimate, cut", x.counted(0, 0), 17);
        due("least", x.counted(0, 1), 5);
        due("most", x.counted(0, 2), 5 + 30 * 17);
        for (int cell = 0; cell < 24; cell++) {
            x.drawn(0, cell, 30);
        }
        due("all drawn", x.counted(0, 0), 720);
        due("all drawn", x.counted(0, 2), 720);
        due("another beach", x.counted(1, 0), -5);
    }

    private static void count() {
        SandFlags x = new SandFlags();
        x.days(4);
        x.guards(3);
        x.water(0, 0, 0);
        x.bather(0, 0);
        x.bather(0, 30);
        x.report(0, 0, 0);
        x.rule(9, 0, 0, 0, 1);
        x.rule(9, 0, 0, 0, 1);
        x.child(false, 1);
        x.child(true, 1);
        x.child(true, 1);
        x.parts(0, 1);
        x.drifts();
        x.look(1, 1);
        x.minutes(11);
        long[] want = {4, 3, 2, 0, 1, 1, 2, 1, 2, 2};
        for (int what = 0; what <= 9; what++) {
            due("count(" + what + ")", x.count(what), want[what]);
        }
        x.mile(9, 0);
        x.bank(9, 0, 0);
        x.boat(-1);
        x.may(0, 9);
        x.joins(9);
        x.drift(0, 0, 0);
        for (int i = 0; i < 4; i++) {
            x.guards(-1);
        }
        for (int i = 0; i < 5; i++) {
            x.counted(0, 0);
        }
        for (int i = 0; i < 6; i++) {
            x.guards(5);
        }
        long[] refusals = {3, 2, 1, 4, 5, 6};
        for (int kind = 1; kind <= 6; kind++) {
            due("count(" + (10 + kind) + ")", x.count(10 + kind), refusals[kind - 1]);
        }
        due("count(10)", x.count(10), -9);
        due("count(17)", x.count(17), -9);
        due("count(-1)", x.count(-1), -9);
        due("count(LEAST_INT)", x.count(LEAST_INT), -9);
        due("count(GREATEST_INT)", x.count(GREATEST_INT), -9);
        due("another what is no refusal", x.count(12), 2);
        x.water(0, 0, 0);
        due("a new water has no bathers", x.count(2) + x.count(3) + x.count(4), 0);
    }
}
