/**
 * The boundary cases that the sentences of 'Terms' name, in the document's order: each from both sides. The
 * refusals, their order and the least and greatest numbers of each call stand in RefusalsTest.
 */
public final class EdgesTest {
    private static final Check CHECK = new Check("EdgesTest");
    private static String sentence;

    /** Names the sentence of the document that the next answers belong to. */
    private static void says(String words) {
        sentence = words;
    }

    private static void due(String call, long got, long want) {
        CHECK.due("'" + sentence + "': " + call, got, want);
    }

    public static void main(String[] args) {
        calls();
        missingTides();
        missingSwells();
        rips();
        ripsAtTheEnds();
        goodCells();
        safeDoubtfulBad();
        longestRows();
        stretches();
        shutHours();
        moves();
        risks();
        rests();
        milesApart();
        firstRosters();
        bathersIn();
        sweeps();
        drifting();
        trouble();
        ways();
        guardsGoing();
        lostOnes();
        newWaters();
        drifts();
        looks();
        tenTogether();
        newSearches();
        boats();
        bestLooks();
        childrenJoined();
        sureOnes();
        rescues();
        rescuesInOrder();
        rules();
        jellies();
        days();
        headsCounted();
        counts();
        CHECK.end();
    }

    // ---- what it is

    private static void calls() {
        says("An object is used for at most 512 calls");
        SandFlags x = new SandFlags();
        for (int i = 0; i < 510; i++) {
            x.guards(-1);
        }
        due("the 511th", x.mile(3, 9), 15);
        due("the 512th", x.count(14), 510);
    }

    // ---- I.

    private static void dueMay(String call, SandFlags x, int hour, int least, int greatest) {
        due(call + ", least", x.may(hour, 0), least);
        due(call + ", greatest", x.may(hour, 1), greatest);
    }

    private static void missingTides() {
        says("TIDE of an HOUR is told, or MISSING (at first)");
        SandFlags x = new SandFlags();
        for (int hour = 0; hour < 16; hour++) {
            dueMay("with none -9 .. 9", x, hour, -9, 9);
        }
        says("with one of them only: that one and 3 less and 3 more; held within -9 .. 9");
        for (int tide = -9; tide <= 9; tide++) {
            x.gauge(15, 0, tide);
            dueMay("behind " + tide, x, 0, Math.max(-9, tide - 3), Math.min(9, tide + 3));
            dueMay("behind " + tide, x, 14, Math.max(-9, tide - 3), Math.min(9, tide + 3));
            dueMay("told " + tide, x, 15, tide, tide);
        }
        x.gauge(15, 0, 99);
        dueMay("MISSING again", x, 0, -9, 9);
        for (int tide = -9; tide <= 9; tide++) {
            x.gauge(0, 0, tide);
            dueMay("ahead " + tide, x, 1, Math.max(-9, tide - 3), Math.min(9, tide + 3));
            dueMay("ahead " + tide, x, 15, Math.max(-9, tide - 3), Math.min(9, tide + 3));
            dueMay("told " + tide, x, 0, tide, tide);
        }
        says("a missing TIDE may be all between the nearest told ones ahead and behind (both included)");
        SandFlags y = new SandFlags();
        y.gauge(0, 0, -9);
        y.gauge(15, 0, 9);
        dueMay("from the first to the last HOUR", y, 1, -9, 9);
        dueMay("from the first to the last HOUR", y, 14, -9, 9);
        y.gauge(7, 0, 2);
        y.gauge(9, 0, 2);
        dueMay("two alike", y, 8, 2, 2);
        dueMay("rising", y, 6, -9, 2);
        dueMay("rising", y, 10, 2, 9);
        y.gauge(9, 0, -1);
        dueMay("falling", y, 8, -1, 2);
        y.gauge(8, 0, 5);
        dueMay("told itself", y, 8, 5, 5);
        y.gauge(8, 0, 99);
        dueMay("MISSING again", y, 8, -1, 2);
        y.gauge(7, 0, 99);
        dueMay("the nearest one MISSING again", y, 8, -9, -1);
    }

    private static void missingSwells() {
        says("a missing SWELL may be 0 up to the greatest that is told (9 with none)");
        SandFlags x = new SandFlags();
        due("none", x.may(0, 2), 9);
        x.gauge(15, 1, 0);
        due("0 is the greatest", x.may(0, 2), 0);
        x.gauge(0, 1, 9);
        due("the greatest", x.may(14, 2), 9);
        due("told itself", x.may(15, 2), 0);
        x.gauge(0, 1, 3);
        x.gauge(7, 1, 4);
        due("the greatest, not the nearest", x.may(1, 2), 4);
        x.gauge(7, 1, 99);
        due("MISSING again", x.may(7, 2), 3);
        x.gauge(0, 1, 99);
        x.gauge(15, 1, 99);
        due("none any more", x.may(7, 2), 9);
    }

    /** Whether there is a RIP, by a bather who is carried out by it. */
    private static boolean isRip(SandFlags x, int cell, int hour) {
        x.water(0, hour, 0);
        x.bather(cell, 0);
        x.minutes(1);
        return x.batherOf(0, 0) == 2;
    }

    private static void dueRip(String call, SandFlags x, int cell, boolean want) {
        due(call, isRip(x, cell, 0) ? 1 : 0, want ? 1 : 0);
    }

    private static SandFlags told(int tide, int swell) {
        SandFlags x = new SandFlags();
        x.gauge(0, 0, tide);
        x.gauge(0, 1, swell);
        return x;
    }

    private static void rips() {
        says("RIP: SWELL is 3 or more");
        SandFlags x = told(0, 0);
        x.bank(0, 10, -2);
        for (int swell = 0; swell <= 9; swell++) {
            x.gauge(0, 1, swell);
            dueRip("swell " + swell, x, 10, swell >= 3);
        }
        says("RIP: DEPTH is 2 or more");
        for (int tide = -9; tide <= 9; tide++) {
            x.gauge(0, 0, tide);
            dueRip("depth " + (tide + 2), x, 10, tide + 2 >= 2);
        }
        x.bank(0, 10, -9);
        dueRip("depth 18", x, 10, true);
        x.gauge(0, 0, -9);
        dueRip("depth 0", x, 10, false);
        says("RIP: by 2 or more above that of the CELLS beside it");
        x.gauge(0, 0, 3);
        for (int bank = -9; bank <= 9; bank++) {
            x.bank(0, 10, 0);
            x.bank(0, 9, bank);
            x.bank(0, 11, 9);
            dueRip("one beside it at bank " + bank, x, 10, bank >= 2);
            x.bank(0, 9, 9);
            x.bank(0, 11, bank);
            dueRip("the other beside it at bank " + bank, x, 10, bank >= 2);
        }
        dueRip("none at the CELL beside it", x, 9, false);
    }

    private static void ripsAtTheEnds() {
        says("RIP: of CELL 0 and 23: of the one there is");
        SandFlags x = told(2, 3);
        x.bank(0, 0, -2);
        x.bank(0, 23, -2);
        dueRip("CELL 0", x, 0, true);
        dueRip("CELL 23", x, 23, true);
        x.bank(0, 1, -1);
        x.bank(0, 22, -1);
        dueRip("CELL 0 by 1 only", x, 0, false);
        dueRip("CELL 23 by 1 only", x, 23, false);
        x.bank(0, 1, 0);
        x.bank(0, 22, 0);
        x.bank(0, 23, -9);
        dueRip("CELL 23 is not beside CELL 0", x, 0, true);
        x.bank(0, 0, -9);
        x.bank(0, 23, -2);
        dueRip("CELL 0 is not beside CELL 23", x, 23, true);
        says("A CELL is GOOD if there is no RIP at a CELL beside it");
        x.bank(0, 0, 0);
        due("CELL 23 is not beside CELL 0", x.safe(0, 0, 0), 2);
        due("CELL 22 is beside CELL 23", x.safe(0, 22, 0), 0);
        x.bank(0, 23, 0);
        x.bank(0, 0, -2);
        due("CELL 0 is not beside CELL 23", x.safe(0, 23, 0), 2);
        due("CELL 1 is beside CELL 0", x.safe(0, 1, 0), 0);
        due("CELL 2 is not", x.safe(0, 2, 0), 2);
    }

    private static void goodCells() {
        says("GOOD: DEPTH is 0 .. 4");
        SandFlags x = told(0, 0);
        for (int bank = -9; bank <= 9; bank++) {
            x.bank(0, 5, bank);
            due("depth " + -bank, x.safe(0, 5, 0), bank <= 0 && bank >= -4 ? 2 : 0);
        }
        says("GOOD: SWELL is 6 or less");
        for (int swell = 0; swell <= 9; swell++) {
            x.gauge(0, 1, swell);
            due("swell " + swell + ", depth 0", x.safe(1, 5, 0), swell <= 6 ? 2 : 0);
        }
        says("GOOD: there is no RIP at it nor at a CELL beside it");
        SandFlags y = told(2, 6);
        y.bank(0, 12, 0);
        y.bank(0, 11, 2);
        y.bank(0, 13, 2);
        due("a RIP at it", y.safe(0, 12, 0), 0);
        due("a RIP behind it", y.safe(0, 11, 0), 0);
        due("a RIP ahead of it", y.safe(0, 13, 0), 0);
        due("two CELLS on", y.safe(0, 14, 0), 2);
        due("two CELLS back", y.safe(0, 10, 0), 2);
        y.bank(0, 13, 1);
        due("no RIP by 1 only", y.safe(0, 12, 0), 2);
        due("no RIP by 1 only", y.safe(0, 11, 0), 2);
    }

    private static void safeDoubtfulBad() {
        says("SAFE in an HOUR: GOOD by all TIDES that there may be; BAD: by none; else DOUBTFUL");
        SandFlags x = new SandFlags();
        x.gauge(0, 1, 0);
        x.gauge(1, 1, 0);
        for (int least = -9; least <= 9; least++) {
            for (int greatest = least; greatest <= 9; greatest++) {
                x.gauge(0, 0, greatest);
                x.gauge(2, 0, least);
                int want = least >= 0 && greatest <= 4 ? 2 : greatest < 0 || least > 4 ? 0 : 1;
                if ((least + greatest) % 3 == 0) {
                    due("tides " + least + " .. " + greatest, x.safe(0, 0, 1), want);
                }
            }
        }
        says("SAFE in an HOUR: GOOD by all SWELLS that there may be; BAD: by none; else DOUBTFUL");
        SandFlags y = told(2, 0);
        y.gauge(0, 1, 99);
        for (int greatest = 0; greatest <= 9; greatest++) {
            y.gauge(5, 1, greatest);
            due("swells 0 .. " + greatest, y.safe(0, 0, 0), greatest <= 6 ? 2 : 1);
        }
        y.bank(0, 8, -2);
        for (int greatest = 0; greatest <= 9; greatest++) {
            y.gauge(5, 1, greatest);
            due("a RIP by swells 0 .. " + greatest, y.safe(0, 8, 0), greatest <= 2 ? 2 : 1);
            due("a RIP beside by swells 0 .. " + greatest, y.safe(0, 7, 0), greatest <= 2 ? 2 : 1);
        }
        y.bank(0, 8, -3);
        due("BAD by the depth alone", y.safe(0, 8, 0), 0);
        SandFlags z = new SandFlags();
        z.gauge(0, 1, 7);
        due("none told, swell 7: BAD", z.safe(0, 0, 0), 0);
        z.gauge(0, 1, 6);
        due("none told, swell 6: DOUBTFUL", z.safe(0, 0, 0), 1);
        z.bank(0, 3, 9);
        due("one tide of all", z.safe(0, 3, 0), 1);
        z.gauge(0, 0, 8);
        due("not that one", z.safe(0, 3, 0), 0);
        z.gauge(0, 0, 9);
        due("that one", z.safe(0, 3, 0), 2);
    }

    private static void longestRows() {
        says("The first CELL of the first longest row of SAFE CELLS (-9 none), how long it is");
        SandFlags x = told(0, 0);
        for (int cell = 1; cell <= 22; cell++) {
            x.bank(0, cell, 1);
        }
        due("CELLS 23 and 0 are no row of two", x.longest(0, 0, 1), 1);
        due("the first of two", x.longest(0, 0, 0), 0);
        x.bank(0, 0, 1);
        due("the last CELL alone", x.longest(0, 0, 0), 23);
        due("the last CELL alone", x.longest(0, 0, 1), 1);
        x.bank(0, 23, 1);
        due("none", x.longest(0, 0, 0), -9);
        due("none", x.longest(0, 0, 1), 0);
        x.gauge(0, 0, 1);
        due("all", x.longest(0, 0, 0), 0);
        due("all", x.longest(0, 0, 1), 24);
    }

    private static void stretches() {
        says("STRETCHES of w CELLS (1 .. 24) in an HOUR: from a CELL on, all SAFE");
        SandFlags x = told(0, 0);
        due("24", x.flagAt(0, 0, 0, 24, 0), 0);
        x.bank(0, 0, 1);
        for (int w = 1; w <= 24; w++) {
            due("behind CELL 0: w " + w, x.flagAt(0, 0, 0, w, 0), w <= 23 ? 1 : -9);
        }
        x.bank(0, 0, 0);
        x.bank(0, 23, 1);
        due("24 up to CELL 22", x.flagAt(0, 0, 0, 24, 0), -9);
        due("23 up to CELL 22", x.flagAt(0, 0, 0, 23, 0), 0);
        for (int cell = 2; cell <= 21; cell++) {
            x.bank(0, cell, 1);
        }
        x.bank(0, 23, 0);
        due("two at either end: the first", x.flagAt(0, 0, 0, 2, 0), 0);
        due("CELLS 22, 23, 0 are no STRETCH", x.flagAt(0, 0, 0, 3, 0), -9);
        x.bank(0, 0, 1);
        due("the last STRETCH of 2", x.flagAt(0, 0, 0, 2, 0), 22);
        x.bank(0, 1, 1);
        x.bank(0, 22, 1);
        due("the last STRETCH of 1", x.flagAt(0, 0, 0, 1, 0), 23);
        due("none of 2", x.flagAt(0, 0, 0, 2, 0), -9);
    }

    /** Hours with a tide each (99: shut by its swell); beach 0 is too high but at cells that are put. */
    private static SandFlags hours(int... tides) {
        SandFlags x = new SandFlags();
        for (int cell = 0; cell < 24; cell++) {
            x.bank(0, cell, 9);
        }
        for (int hour = 0; hour < tides.length; hour++) {
            x.gauge(hour, 0, tides[hour] == 99 ? 0 : tides[hour]);
            x.gauge(hour, 1, tides[hour] == 99 ? 9 : 0);
        }
        return x;
    }

    private static void shutHours() {
        says("for each HOUR a STRETCH of w, or SHUT (only if there is none in that HOUR)");
        SandFlags x = hours(-4, 0, 5, 0, 5, 0);
        x.bank(0, 4, -4);
        x.bank(0, 8, 1);
        // cell 4 at tides -4 .. 0, cell 8 at tides 1 .. 5
        due("MOVES rather than SHUT", x.flags(0, 0, 5, 1), 4);
        due("hour 2", x.flagAt(0, 0, 5, 1, 2), 8);
        due("hour 3", x.flagAt(0, 0, 5, 1, 3), 4);
        due("hour 5", x.flagAt(0, 0, 5, 1, 5), 4);
        x.gauge(2, 1, 9);
        due("SHUT", x.flagAt(0, 0, 5, 1, 2), -9);
        due("one MOVE there, one back", x.flags(0, 0, 5, 1), 2);
        SandFlags y = hours(99, 99, 99);
        y.bank(0, 4, 0);
        due("all HOURS SHUT", y.flags(0, 0, 2, 1), 0);
        due("all HOURS SHUT", y.flagAt(0, 0, 2, 1, 1), -9);
        y.gauge(1, 1, 0);
        due("open in between", y.flagAt(0, 0, 2, 1, 1), 4);
        due("SHUT ahead", y.flagAt(0, 0, 2, 1, 0), -9);
        due("SHUT behind", y.flagAt(0, 0, 2, 1, 2), -9);
        y.gauge(1, 1, 9);
        due("SHUT again", y.flagAt(0, 0, 2, 1, 1), -9);
        due("SHUT again", y.flags(0, 0, 2, 1), 0);
        SandFlags z = hours(-4, -4, 5);
        z.bank(0, 4, -4);
        z.bank(0, 8, 1);
        due("a MOVE behind an open HOUR", z.flags(0, 0, 2, 1), 1);
        z.gauge(1, 1, 9);
        due("a MOVE behind an HOUR that is SHUT now", z.flags(0, 0, 2, 1), 1);
        due("behind an HOUR that is SHUT now", z.flagAt(0, 0, 2, 1, 2), 8);
    }

    private static void moves() {
        says("a MOVE is made at an HOUR behind a at which a STRETCH other than the latest one is set");
        SandFlags x = hours(-4, 1, -4, 1, -4, 1, -4, 1, -4, 1, -4, 1, -4, 1, -4, 1);
        x.bank(0, 0, -4);
        x.bank(0, 23, 1);
        due("at a itself none", x.flags(0, 15, 15, 1), 0);
        due("16 HOURS", x.flags(0, 0, 15, 1), 15);
        due("two HOURS", x.flags(0, 14, 15, 1), 1);
        due("the last HOUR", x.flagAt(0, 0, 15, 1, 15), 23);
        says("SHUT HOURS between count nothing");
        SandFlags y = hours(0, 99, 0, 99, 99, 0, 5);
        y.bank(0, 7, 0);
        y.bank(0, 9, 1);
        due("the same one again", y.flags(0, 0, 5, 1), 0);
        due("another one", y.flags(0, 0, 6, 1), 1);
        due("SHUT at a: the first one is no MOVE", y.flags(0, 1, 2, 1), 0);
        due("SHUT at a: the next one is", y.flags(0, 4, 6, 1), 1);
        says("Of several: the one whose first CELLS, HOUR by HOUR, are least first");
        SandFlags z = hours(0, 0, 0);
        z.bank(0, 3, -4);
        z.bank(0, 6, 0);
        z.bank(0, 9, -2);
        z.gauge(2, 0, 2);
        // hours 0, 1: cells 3, 6, 9; hour 2: 6, 9
        due("no MOVE at all", z.flags(0, 0, 2, 1), 0);
        due("the least of the two", z.flagAt(0, 0, 2, 1, 0), 6);
        z.gauge(2, 0, 8);
        z.bank(0, 20, 5);
        // hour 2: cell 20 alone
        due("one MOVE, whenever", z.flags(0, 0, 2, 1), 1);
        due("least in hour 0", z.flagAt(0, 0, 2, 1, 0), 3);
        due("least in hour 1", z.flagAt(0, 0, 2, 1, 1), 3);
        due("the only one in hour 2", z.flagAt(0, 0, 2, 1, 2), 20);
    }

    // ---- II.

    private static void risks() {
        says("RISK: 12 times the heads by (1 and g), cut");
        SandFlags x = new SandFlags();
        x.crowd(2, 15, 999);
        int[] want = {11988, 5994, 3996, 2997, 2397};
        for (int g = 0; g <= 4; g++) {
            x.guards(g);
            due(g + " GUARDS, 999 heads", x.roster(15, 15), want[g]);
        }
        x.crowd(2, 15, 1);
        int[] small = {12, 6, 4, 3, 2};
        for (int g = 0; g <= 4; g++) {
            x.guards(g);
            due(g + " GUARDS, 1 head", x.roster(15, 15), small[g]);
        }
        x.crowd(2, 15, 0);
        due("no heads", x.roster(15, 15), 0);
        says("the least RISK of all BEACHES and HOURS together; HOURS a to b (6 at most)");
        SandFlags y = new SandFlags();
        for (int beach = 0; beach < 4; beach++) {
            for (int hour = 10; hour < 16; hour++) {
                y.crowd(beach, hour, 999);
            }
        }
        due("no GUARDS, six HOURS", y.roster(10, 15), 24 * 11988);
        due("six HOURS from the HOUR ahead on", y.roster(9, 14), 20 * 11988);
        due("seven HOURS", y.roster(9, 15), -6);
        due("all sixteen", y.roster(0, 15), -6);
        due("HOURS without heads", y.roster(0, 5), 0);
        y.guards(4);
        due("one at each BEACH, four HOURS of six", y.roster(10, 15), 8 * 11988 + 16 * 5994);
    }

    private static void rests() {
        says("behind two HOURS at BEACHES on end comes a rest");
        SandFlags x = new SandFlags();
        x.guards(1);
        for (int hour = 0; hour < 6; hour++) {
            x.crowd(0, hour, 2);
        }
        // 24 without, 12 with the GUARD
        int[] want = {12, 24, 48, 60, 72, 96};
        for (int b = 0; b < 6; b++) {
            due("HOURS 0 to " + b, x.roster(0, b), want[b]);
        }
        due("a rest in HOUR 2", x.rosterAt(0, 5, 0, 2), -9);
        due("at a BEACH in HOUR 3", x.rosterAt(0, 5, 0, 3), 0);
        due("a rest in HOUR 5", x.rosterAt(0, 5, 0, 5), -9);
        x.crowd(0, 1, 0);
        x.crowd(0, 2, 0);
        due("a rest by one HOUR only counts", x.roster(0, 4), 36);
        says("Ahead of a all have rested");
        due("two HOURS from 1 on", x.rosterAt(1, 3, 0, 1), 0);
        x.crowd(0, 2, 2);
        due("HOURS 2 and 3", x.roster(2, 3), 24);
        due("HOURS 1 to 3", x.roster(1, 3), 24);
        due("a rest in HOUR 1 for that", x.rosterAt(1, 3, 0, 1), -9);
    }

    private static void milesApart() {
        says("from a BEACH to another one only if they are 10 MILES apart at most (behind a rest to any)");
        SandFlags x = new SandFlags();
        x.guards(1);
        x.crowd(0, 0, 2);
        x.crowd(3, 1, 2);
        for (int mile = 0; mile <= 40; mile += 5) {
            x.mile(3, mile);
            due("0 and " + mile, x.roster(0, 1), mile <= 10 ? 24 : 36);
        }
        x.mile(3, 11);
        due("0 and 11", x.roster(0, 1), 36);
        x.mile(0, 40);
        x.mile(3, 30);
        due("40 and 30: back", x.roster(0, 1), 24);
        x.mile(3, 29);
        due("40 and 29", x.roster(0, 1), 36);
        x.mile(3, 0);
        x.crowd(3, 1, 0);
        x.crowd(3, 2, 2);
        due("40 and 0, behind a rest", x.roster(0, 2), 24);
        due("the rest", x.rosterAt(0, 2, 0, 1), -9);
        due("behind the rest", x.rosterAt(0, 2, 0, 2), 3);
        says("a GUARD may stay at a BEACH, and then rests");
        for (int beach = 0; beach < 4; beach++) {
            SandFlags y = new SandFlags();
            y.guards(1);
            for (int hour = 13; hour < 16; hour++) {
                y.crowd(beach, hour, 2);
            }
            due("two HOURS at BEACH " + beach, y.roster(13, 14), 24);
            due("the second one", y.rosterAt(13, 14, 0, 14), beach);
            due("three HOURS", y.roster(13, 15), 48);
            due("at rest in the third", y.rosterAt(13, 15, 0, 15), -9);
        }
    }

    private static void firstRosters() {
        says("of several the first: HOUR by HOUR, in each GUARD by GUARD, BEACHES by numbers, a rest last");
        SandFlags x = new SandFlags();
        x.guards(4);
        for (int guard = 0; guard < 4; guard++) {
            due("HOUR 0 without heads", x.rosterAt(0, 5, guard, 0), 0);
            due("HOUR 1 without heads", x.rosterAt(0, 5, guard, 1), 0);
            due("HOUR 2 without heads", x.rosterAt(0, 5, guard, 2), -9);
            due("HOUR 5 without heads", x.rosterAt(0, 5, guard, 5), -9);
        }
        for (int beach = 0; beach < 4; beach++) {
            x.crowd(beach, 7, 100);
        }
        for (int guard = 0; guard < 4; guard++) {
            due("GUARDS by BEACHES' numbers", x.rosterAt(7, 7, guard, 7), guard);
        }
        x.crowd(1, 7, 0);
        due("three BEACHES: the first by two", x.rosterAt(7, 7, 0, 7), 0);
        due("three BEACHES: the first by two", x.rosterAt(7, 7, 1, 7), 0);
        due("three BEACHES", x.rosterAt(7, 7, 2, 7), 2);
        due("three BEACHES", x.rosterAt(7, 7, 3, 7), 3);
        says("GUARDS 0 .. 3 (how many there are is told: 0 .. 4)");
        x.guards(3);
        due("GUARD 2 of three", x.rosterAt(7, 7, 2, 7), 3);
        due("GUARD 3 of three", x.rosterAt(7, 7, 3, 7), -1);
        x.guards(0);
        due("GUARD 0 of none", x.rosterAt(7, 7, 0, 7), -1);
        x.guards(1);
        due("HOUR behind b", x.rosterAt(2, 5, 0, 6), -1);
        due("HOUR b", x.rosterAt(2, 5, 0, 5), 0);
    }

    // ---- III.

    /** A beach with a rip at each cell that is told, in hour 0; the water has g guards and is swept whole. */
    private static SandFlags ripsAt(int g, int... cells) {
        SandFlags x = told(3, 3);
        for (int cell : cells) {
            x.bank(0, cell, -2);
        }
        x.set(0, 1);
        x.set(1, 60);
        x.water(0, 0, g);
        return x;
    }

    private static void dueBather(String call, SandFlags x, int bather, int state, int minute) {
        due(call, x.batherOf(bather, 1), state);
        due(call + ", the minute", x.batherOf(bather, 2), minute);
    }

    private static void bathersIn() {
        says("BATHERS (20 at most) are each in a CELL and OUT (0 .. 30)");
        SandFlags x = ripsAt(0);
        for (int i = 0; i < 20; i++) {
            due("its number", x.bather(i % 2 * 23, i % 2 * 30), i);
        }
        due("the 21st", x.bather(0, 0), -6);
        due("OUT 0", x.batherOf(18, 0), 0);
        due("OUT 30", x.batherOf(19, 0), 30);
        dueBather("well, whatever OUT is, until a minute passes", x, 19, 0, 0);
        x.minutes(1);
        dueBather("then in TROUBLE and SEEN", x, 19, 2, 0);
        due("the 20 count", x.count(2), 20);
        says("BATHERS go in at any minute");
        SandFlags y = ripsAt(0, 5);
        y.minutes(199);
        due("in minute 199", y.bather(5, 5), 0);
        dueBather("0 at first", y, 0, 0, 0);
        due("the last minute", y.minutes(1), 200);
        dueBather("SEEN in minute 199", y, 0, 2, 199);
        due("above 200 in all", y.minutes(1), -6);
        due("in minute 200", y.bather(5, 5), 1);
        due("above 200 in all", y.minutes(1), -6);
        due("not carried", y.batherOf(1, 0), 5);
    }

    private static void sweeps() {
        says("EYES sweep: the CELL that is m modulo SWEEP times 24 by SWEEP, cut, and all up to the next such one");
        for (int sweep = 1; sweep <= 24; sweep++) {
            for (int half = 0; half < 2; half++) {
                SandFlags x = new SandFlags();
                x.set(0, sweep);
                x.set(1, 60);
                x.water(0, 0, 0);
                for (int i = 0; i < 12; i++) {
                    x.bather(12 * half + i, 30);
                }
                x.minutes(sweep);
                for (int i = 0; i < 12; i++) {
                    dueBather("SWEEP " + sweep + ", CELL " + (12 * half + i), x, i, 2,
                            sweptIn(12 * half + i, sweep));
                }
            }
        }
        says("m modulo SWEEP");
        SandFlags x = new SandFlags();
        x.water(0, 0, 0);
        x.set(1, 60);
        x.minutes(1);
        x.bather(0, 30);
        x.bather(23, 30);
        x.minutes(23);
        dueBather("CELL 0 not again until minute 24", x, 0, 1, 1);
        dueBather("CELL 23 in minute 23", x, 1, 2, 23);
        x.minutes(1);
        dueBather("CELL 0 in minute 24", x, 0, 2, 24);
        says("SWEEP becomes another one while minutes pass");
        x.bather(4, 30);
        x.set(0, 5);
        x.minutes(1);
        dueBather("25 modulo 5 is 0: CELLS 0 to 3", x, 2, 1, 25);
        x.minutes(1);
        dueBather("26 modulo 5 is 1: CELLS 4 to 8", x, 2, 2, 26);
    }

    /** The minute of the first sweep in which the eyes are at a cell, by its words. */
    private static int sweptIn(int cell, int sweep) {
        int at = 0;
        for (int m = 0; m < sweep; m++) {
            if (m * 24 / sweep <= cell) {
                at = m;
            }
        }
        return at;
    }

    private static void drifting() {
        says("in a CELL with a RIP OUT is 2 more; OUT is 30 at most");
        SandFlags x = ripsAt(0, 0, 23);
        int[] outs = {0, 27, 28, 29, 30};
        int[] want = {2, 29, 30, 30, 30};
        for (int i = 0; i < 5; i++) {
            x.bather(i % 2 * 23, outs[i]);
        }
        x.minutes(1);
        for (int i = 0; i < 5; i++) {
            due("OUT " + outs[i], x.batherOf(i, 0), want[i]);
        }
        x.minutes(50);
        due("never above 30", x.batherOf(0, 0), 30);
        says("else, if it is above 0 and not in TROUBLE, 1 less");
        SandFlags y = ripsAt(0, 12);
        int[] away = {0, 1, 2, 5, 6, 7, 30};
        int[] then = {0, 0, 1, 4, 5, 6, 29};
        for (int i = 0; i < 7; i++) {
            y.bather(11, away[i]);
        }
        y.minutes(1);
        for (int i = 0; i < 7; i++) {
            due("OUT " + away[i], y.batherOf(i, 0), then[i]);
        }
        y.minutes(1);
        due("0 stays 0", y.batherOf(0, 0), 0);
        due("0 stays 0", y.batherOf(1, 0), 0);
        due("well: 1 less", y.batherOf(4, 0), 4);
        due("in TROUBLE: no less", y.batherOf(5, 0), 6);
        due("in TROUBLE: no less", y.batherOf(6, 0), 29);
    }

    private static void trouble() {
        says("Who is OUT 6 or more is in TROUBLE from then on");
        SandFlags x = ripsAt(0, 5);
        x.set(0, 24);
        x.bather(5, 3);
        x.bather(5, 4);
        x.bather(14, 6);
        x.bather(14, 7);
        x.minutes(1);
        dueBather("3 and 2: well", x, 0, 0, 0);
        dueBather("4 and 2: in TROUBLE", x, 1, 1, 0);
        dueBather("6 less 1: well", x, 2, 0, 0);
        dueBather("7 less 1: in TROUBLE", x, 3, 1, 0);
        x.minutes(1);
        dueBather("5 and 2: in TROUBLE", x, 0, 1, 1);
        dueBather("the minute of the change stays", x, 1, 1, 0);
        says("those in TROUBLE whose CELL the EYES sweep are SEEN");
        x.minutes(3);
        dueBather("minute 4: CELL 4", x, 0, 1, 1);
        x.minutes(1);
        dueBather("minute 5: CELL 5", x, 0, 2, 5);
        dueBather("minute 5: CELL 5", x, 1, 2, 5);
        x.minutes(24);
        dueBather("SEEN once", x, 0, 2, 5);
        dueBather("well ones are never SEEN", x, 2, 0, 0);
        says("in TROUBLE in the minute in which the EYES are there: SEEN at once");
        SandFlags y = ripsAt(0, 5);
        y.set(0, 24);
        y.minutes(5);
        y.bather(5, 4);
        y.bather(4, 7);
        y.minutes(1);
        dueBather("SEEN in minute 5", y, 0, 2, 5);
        dueBather("the EYES were there ahead of it", y, 1, 1, 5);
    }

    /** The minute in which a bather of a cell who is out so far is saved, from minute 0 on. */
    private static int wayTo(int cell, int out) {
        SandFlags x = ripsAt(1);
        x.bather(cell, out + 1);
        x.minutes(40);
        return x.batherOf(0, 1) == 4 ? x.batherOf(0, 2) : -1;
    }

    private static void ways() {
        says("k being OUT by 3, cut up");
        int[] outs = {6, 7, 8, 9, 10, 27, 28, 29};
        int[] want = {2, 3, 3, 3, 4, 9, 10, 10};
        for (int i = 0; i < outs.length; i++) {
            due("OUT " + outs[i] + " at the TOWER", wayTo(12, outs[i]), want[i]);
        }
        says("and CELLS from the TOWER (CELL 12) by 2, cut up, together");
        for (int cell = 0; cell < 24; cell++) {
            int apart = cell < 12 ? 12 - cell : cell - 12;
            due("CELL " + cell, wayTo(cell, 6), 2 + apart / 2 + apart % 2);
        }
        says("OUT as it is in minute m");
        SandFlags x = ripsAt(1, 12);
        x.bather(12, 30);
        x.bather(12, 4);
        x.minutes(20);
        dueBather("OUT 30: 10 minutes", x, 0, 4, 10);
        dueBather("gone for in minute 20 at last", x, 1, 2, 0);
        x.minutes(1);
        dueBather("gone for in minute 20", x, 1, 3, 20);
        x.minutes(9);
        dueBather("not in minute 29", x, 1, 3, 20);
        x.minutes(1);
        dueBather("OUT 30 by then: 10 minutes", x, 1, 4, 30);
    }

    private static void guardsGoing() {
        says("if a GUARD of those there (told: 0 .. 4) is free, the GUARD goes, by numbers");
        for (int g = 0; g <= 4; g++) {
            SandFlags x = ripsAt(g);
            for (int i = 0; i < 5; i++) {
                x.bather(12, 7);
            }
            x.minutes(1);
            for (int i = 0; i < 5; i++) {
                dueBather(g + " GUARDS, BATHER " + i, x, i, i < g ? 3 : 2, 0);
            }
        }
        says("the GUARD is free again in minute m and 2 k");
        SandFlags x = ripsAt(1);
        x.bather(12, 7);
        x.bather(12, 7);
        x.bather(12, 7);
        x.minutes(3);
        dueBather("reached in minute 2", x, 0, 4, 2);
        dueBather("waits", x, 1, 2, 0);
        x.minutes(1);
        dueBather("not free in minute 3", x, 1, 2, 0);
        x.minutes(1);
        dueBather("free in minute 4", x, 1, 3, 4);
        x.minutes(3);
        dueBather("reached in minute 6", x, 1, 4, 6);
        dueBather("not free in minute 7", x, 2, 2, 0);
        x.minutes(1);
        dueBather("free in minute 8", x, 2, 3, 8);
        says("SAVED ones are out of the water");
        SandFlags y = ripsAt(1, 12);
        y.set(1, 5);
        y.bather(12, 4);
        y.minutes(30);
        dueBather("never LOST", y, 0, 4, 2);
        due("OUT stays", y.batherOf(0, 0), 8);
        due("SAVED", y.count(3), 1);
        due("none LOST", y.count(4), 0);
    }

    private static void lostOnes() {
        says("who is in TROUBLE since minute m less LONG (1 .. 60; 10 at first) or longer, is LOST");
        SandFlags first = new SandFlags();
        first.water(0, 0, 0);
        first.bather(0, 7);
        first.minutes(10);
        dueBather("LONG at first, minute 9", first, 0, 2, 0);
        first.minutes(1);
        dueBather("LONG at first, minute 10", first, 0, 5, 10);
        for (int time : new int[] {1, 2, 60}) {
            SandFlags x = ripsAt(0);
            x.set(1, time);
            x.bather(0, 7);
            x.minutes(time);
            dueBather("LONG " + time + ", a minute less", x, 0, 2, 0);
            x.minutes(1);
            dueBather("LONG " + time, x, 0, 5, time);
            x.minutes(5);
            dueBather("LOST once", x, 0, 5, time);
        }
        says("or longer");
        SandFlags y = ripsAt(0);
        y.bather(0, 7);
        y.minutes(30);
        y.set(1, 3);
        dueBather("not ahead of a minute", y, 0, 2, 0);
        y.minutes(1);
        dueBather("LONG becomes less", y, 0, 5, 30);
        says("LOST ones are out of the water; in TROUBLE, not SEEN, or gone for");
        SandFlags z = ripsAt(0, 5);
        z.set(0, 24);
        z.set(1, 2);
        z.bather(5, 4);
        z.minutes(9);
        dueBather("not SEEN", z, 0, 5, 2);
        due("OUT stays", z.batherOf(0, 0), 10);
        lostOrSaved();
    }

    private static void lostOrSaved() {
        says("ahead of all, BATHERS who are REACHED now are SAVED");
        for (int time = 1; time <= 4; time++) {
            SandFlags x = ripsAt(1);
            x.set(1, time);
            x.bather(12, 7);
            x.minutes(9);
            dueBather("REACHED in minute 2, LONG " + time, x, 0, time < 2 ? 5 : 4, time < 2 ? time : 2);
        }
        says("A GUARD whose BATHER is LOST goes on as told");
        SandFlags x = ripsAt(1);
        x.set(1, 1);
        x.bather(12, 7);
        x.minutes(2);
        dueBather("LOST in minute 1", x, 0, 5, 1);
        x.set(1, 60);
        x.bather(12, 7);
        x.minutes(2);
        dueBather("the GUARD is not free in minute 3", x, 1, 2, 2);
        dueBather("LOST stays LOST in minute 2", x, 0, 5, 1);
        x.minutes(1);
        dueBather("the GUARD is free in minute 4", x, 1, 3, 4);
    }

    private static void newWaters() {
        says("THE WATER, without BATHERS, at minute 0, with g GUARDS there");
        SandFlags x = ripsAt(1, 5);
        x.bather(5, 0);
        x.minutes(7);
        dueBather("a GUARD is away", x, 0, 3, 2);
        due("told again", x.water(0, 0, 1), 1);
        due("no BATHERS", x.count(2), 0);
        due("no BATHER 0", x.batherOf(0, 0), -1);
        due("its number", x.bather(12, 7), 0);
        dueBather("0 at first", x, 0, 0, 0);
        due("at minute 0", x.minutes(1), 1);
        dueBather("the GUARD is free", x, 0, 3, 0);
        x.minutes(2);
        dueBather("reached in minute 2", x, 0, 4, 2);
        due("199 are not left", x.minutes(198), -6);
        due("197 are left", x.minutes(197), 200);
        says("its RIPS as they are when THE WATER is told");
        SandFlags y = ripsAt(0, 5);
        y.bank(0, 5, 0);
        y.bank(0, 9, -2);
        y.gauge(0, 1, 0);
        y.days(1);
        y.bather(5, 0);
        y.bather(9, 1);
        y.minutes(1);
        due("a RIP at CELL 5", y.batherOf(0, 0), 2);
        due("none at CELL 9", y.batherOf(1, 0), 0);
        says("MISSING ones as the greatest that there may be");
        SandFlags z = new SandFlags();
        z.bank(0, 6, 9);
        z.bank(0, 7, 7);
        z.bank(0, 8, 9);
        due("TIDE 9, depth 2", isRip(z, 7, 4) ? 1 : 0, 1);
        z.gauge(0, 0, 6);
        due("TIDE 9 by 6 and 3", isRip(z, 7, 4) ? 1 : 0, 1);
        z.gauge(0, 0, 5);
        due("TIDE 8 by 5 and 3", isRip(z, 7, 4) ? 1 : 0, 0);
        z.gauge(0, 0, 9);
        z.gauge(0, 1, 3);
        due("SWELL 3", isRip(z, 7, 4) ? 1 : 0, 1);
        z.gauge(0, 1, 2);
        due("SWELL 2", isRip(z, 7, 4) ? 1 : 0, 0);
    }

    // ---- IV.

    private static void drifts() {
        says("beyond an end they stay at it");
        SandFlags x = new SandFlags();
        x.drift(4, 0, 0);
        x.parts(0, 3);
        x.parts(1, 5);
        x.parts(31, 7);
        due("a minute to the left", x.drifts(), 1);
        due("PLACE 0", x.now(0, false), 32);
        due("PLACE 1", x.now(1, false), 0);
        due("PLACE 30", x.now(30, false), 28);
        due("PLACE 31", x.now(31, false), 0);
        x.drift(0, 0, 4);
        x.parts(0, 3);
        x.parts(30, 5);
        x.parts(31, 7);
        due("a minute to the right", x.drifts(), 1);
        due("PLACE 0", x.now(0, false), 0);
        due("PLACE 1", x.now(1, false), 12);
        due("PLACE 30", x.now(30, false), 0);
        due("PLACE 31", x.now(31, false), 48);
        says("l to the left, s stay, r to the right; all PARTS are 4 times as many then");
        x.drift(1, 1, 2);
        x.parts(0, 1);
        x.parts(5, 10);
        x.parts(31, 100);
        x.drifts();
        due("PLACE 0: l and s stay", x.now(0, false), 2);
        due("PLACE 1", x.now(1, false), 2);
        due("PLACE 4", x.now(4, false), 10);
        due("PLACE 5", x.now(5, false), 10);
        due("PLACE 6", x.now(6, false), 20);
        due("PLACE 30", x.now(30, false), 100);
        due("PLACE 31: s and r stay", x.now(31, false), 300);
        due("all", x.now(0, true), 444);
        says("DRIFT (0 .. 4; together 4)");
        due("4, 0, 0", x.drift(4, 0, 0), 1);
        due("0, 4, 0", x.drift(0, 4, 0), 1);
        due("0, 0, 4", x.drift(0, 0, 4), 1);
        due("together 3", x.drift(1, 1, 1), -3);
        due("together 5", x.drift(1, 2, 2), -3);
        due("together 12", x.drift(4, 4, 4), -3);
        due("together 0", x.drift(0, 0, 0), -3);
        due("together 4, one below 0", x.drift(-1, 4, 1), -4);
        due("together 4, one below 0, one above 4", x.drift(5, -1, 0), -4);
        due("together 4 by wrapping around", x.drift(Integer.MAX_VALUE, Integer.MAX_VALUE, 6), -6);
    }

    private static void looks() {
        says("A LOOK with q (1 .. 8): its own 8 less q times, all others are 8 times as many");
        for (int q = 1; q <= 8; q++) {
            SandFlags x = new SandFlags();
            x.parts(0, 1000000);
            x.parts(31, 999999);
            due("q " + q, x.look(q % 2 * 31, q), 1);
            due("PLACE 0, q " + q, x.now(0, false), 1000000L * (q % 2 == 0 ? 8 - q : 8));
            due("PLACE 31, q " + q, x.now(31, false), 999999L * (q % 2 == 1 ? 8 - q : 8));
        }
        says("-5 no PARTS at all");
        SandFlags x = new SandFlags();
        due("none told: drifts", x.drifts(), -5);
        due("none told: look", x.look(0, 1), -5);
        due("none told: seek", x.seek(1, 1, 0), -5);
        due("none told: chance", x.chance(1, 1), -5);
        due("none told: of all", x.now(0, true), 0);
        x.parts(31, 0);
        due("0 told: drifts", x.drifts(), -5);
        x.parts(31, 1);
        due("1 told: looked through whole", x.look(31, 8), 1);
        due("all gone: drifts", x.drifts(), -5);
        due("all gone: look", x.look(0, 1), -5);
        due("all gone: seek", x.seek(1, 1, 0), -5);
        due("all gone: chance", x.chance(1, 1), -5);
        due("the LOOK is made", x.count(9), 1);
        due("-5 ahead of q", x.look(0, 9), -5);
        due("PLACE ahead of -5", x.look(32, 9), -1);
    }

    private static void tenTogether() {
        says("At most 10 minutes and LOOKS together since PARTS were told");
        SandFlags x = new SandFlags();
        x.drift(0, 0, 4);
        x.parts(0, 1);
        for (int i = 1; i <= 10; i++) {
            due("minute " + i, x.drifts(), i);
        }
        due("ten PLACES on", x.now(10, false), 1 << 20);
        due("an 11th minute", x.drifts(), -6);
        due("a LOOK behind ten", x.look(10, 1), -6);
        due("ten", x.count(9), 10);
        x.parts(0, 1);
        due("PARTS told anew", x.count(9), 0);
        due("the first of them", x.look(1, 1), 1);
        SandFlags y = new SandFlags();
        for (int place = 0; place < 32; place++) {
            y.parts(place, 1000000);
        }
        for (int i = 1; i <= 9; i++) {
            y.look(0, 1);
        }
        due("nine LOOKS and a minute", y.drifts(), 10);
        due("a LOOK more", y.look(0, 1), -6);
        due("the greatest PARTS", y.now(31, false), 1000000L * (1L << 27) * 4);
        says("-6 minutes, LOOKS would be above 10 in all");
        for (int m = 1; m <= 3; m++) {
            SandFlags z = new SandFlags();
            z.parts(0, 1);
            for (int i = 0; i < 10 - 2 * m; i++) {
                z.drifts();
            }
            due("10 in all, m " + m, z.seek(m, 8, m - 1), 0);
            due("10 in all, m " + m, z.chance(m, 8), 1000000);
            z.drifts();
            due("11 in all, m " + m, z.seek(m, 8, m - 1), -6);
            due("11 in all, m " + m, z.chance(m, 8), -6);
        }
    }

    private static void newSearches() {
        says("those of others are 0 if this is the first one since a minute or LOOK was made");
        SandFlags x = new SandFlags();
        x.parts(0, 4);
        x.parts(31, 5);
        due("none made: of all", x.now(0, true), 9);
        x.drifts();
        due("what was told of it last", x.parts(31, 6), 5);
        due("PLACE 0", x.now(0, false), 0);
        due("of all", x.now(0, true), 6);
        due("none made", x.count(9), 0);
        due("it became 0 so", x.parts(0, 7), 0);
        due("not the first one", x.now(31, false), 6);
        x.look(0, 8);
        due("a PLACE that was looked through: as told", x.parts(0, 0), 7);
        due("it becomes 0", x.now(0, true), 0);
        due("none made", x.count(9), 0);
        due("it became 0 so", x.parts(31, 8), 0);
        due("told again", x.parts(31, 9), 8);
        due("of all", x.now(0, true), 9);
        says("PARTS (0 at first; 1000000 at most each)");
        due("1000000", x.parts(5, 1000000), 0);
        due("1000001", x.parts(5, 1000001), -6);
        due("as it was", x.parts(5, 0), 1000000);
        says("IllegalArgumentException: no such PLACE (all true; place counts nothing)");
        for (int place : new int[] {Integer.MIN_VALUE, -1, 32, Integer.MAX_VALUE}) {
            due("PLACE " + place + ", of all", x.now(place, true), 9);
            due("PLACE " + place, throwsAt(x, place) ? 1 : 0, 1);
        }
        due("PLACE 0", throwsAt(x, 0) ? 1 : 0, 0);
        due("PLACE 31", throwsAt(x, 31) ? 1 : 0, 0);
    }

    private static boolean throwsAt(SandFlags x, int place) {
        try {
            x.now(place, false);
            return false;
        } catch (IllegalArgumentException e) {
            return e.getClass() == IllegalArgumentException.class;
        }
    }

    private static void boats() {
        says("THE BOAT may go 3 PLACES at most in a minute");
        SandFlags x = new SandFlags();
        x.parts(10, 1);
        for (int place = 0; place < 32; place++) {
            x.boat(place);
            boolean near = place >= 7 && place <= 13;
            due("from PLACE " + place, x.chance(1, 8), near ? 1000000 : 0);
            due("from PLACE " + place, x.seek(1, 8, 0), near ? 10 : Math.max(0, place - 3));
        }
        for (int place = 0; place < 32; place++) {
            x.boat(place);
            due("in 2 from PLACE " + place, x.chance(2, 8), place >= 4 && place <= 16 ? 1000000 : 0);
        }
        for (int place = 0; place < 32; place++) {
            x.boat(place);
            due("in 3 from PLACE " + place, x.chance(3, 8), place >= 1 && place <= 19 ? 1000000 : 0);
        }
        says("PLACES 0 .. 31 in a row");
        SandFlags y = new SandFlags();
        y.parts(31, 1);
        due("PLACE 31 is not beside 0", y.chance(3, 8), 0);
        y.boat(31);
        due("PLACE 31", y.seek(1, 8, 0), 31);
        y.parts(0, 1);
        y.parts(31, 0);
        due("PLACE 0 is not beside 31", y.chance(3, 8), 0);
    }

    private static void bestLooks() {
        says("the rows of PLACES with the greatest chance to find (in all m)");
        SandFlags x = new SandFlags();
        x.boat(10);
        x.parts(7, 5);
        x.parts(13, 6);
        due("the greater", x.seek(1, 8, 0), 13);
        x.parts(7, 6);
        due("of several the least", x.seek(1, 8, 0), 7);
        due("half", x.chance(1, 8), 500000);
        x.parts(9, 1);
        due("two looks at 13 by q 4", x.seek(2, 4, 0), 7);
        due("two looks: not so far at once", x.seek(2, 8, 1), 9);
        says("(Chances are compared exactly.)");
        SandFlags y = new SandFlags();
        for (int place = 0; place < 32; place++) {
            y.parts(place, 1000000);
        }
        y.parts(5, 999999);
        y.boat(3);
        for (int i = 0; i < 8; i++) {
            y.look(31, 8);
        }
        due("999999 and 1000000", y.seek(1, 8, 0), 0);
        y.boat(8);
        due("1000000 and 999999", y.seek(1, 8, 0), 6);
        says("first the BOAT goes, then LOOKS there, then the DRIFT");
        SandFlags z = new SandFlags();
        z.drift(0, 0, 4);
        z.parts(3, 1);
        due("ahead of the DRIFT", z.chance(1, 8), 1000000);
        due("at PLACE 3", z.seek(1, 8, 0), 3);
        due("q 4, twice", z.chance(2, 4), 750000);
        due("then at PLACE 4", z.seek(2, 4, 1), 4);
        due("q 1, three times, cut", z.chance(3, 1), 330078);
        due("then at PLACE 5", z.seek(3, 1, 2), 5);
        says("Its chance in millionths, cut");
        z.parts(3, 2);
        z.parts(20, 1);
        due("two thirds", z.chance(1, 8), 666666);
        z.parts(3, 1);
        z.parts(20, 1000000);
        due("less than a millionth", z.chance(1, 8), 0);
        z.parts(20, 999999);
        due("a millionth", z.chance(1, 8), 1);
    }

    // ---- V.

    private static int joinsOf(int lost, int found) {
        SandFlags x = new SandFlags();
        x.child(false, lost);
        x.child(true, found);
        return x.joins(0) == 0 ? -1 : x.joins(1);
    }

    private static void childrenJoined() {
        says("MARKS: 5 digits 0 .. 9 (as a number 0 .. 99999); UNLIKE by 2 at most");
        due("alike", joinsOf(0, 0), 0);
        due("alike", joinsOf(99999, 99999), 0);
        due("the first digit", joinsOf(0, 90000), 1);
        due("the last digit", joinsOf(0, 1), 1);
        due("the first and the last digit", joinsOf(1, 90000), 2);
        due("two digits", joinsOf(12345, 12399), 2);
        due("three digits", joinsOf(12345, 12999), -1);
        due("all digits", joinsOf(0, 99999), -1);
        due("9 and 10", joinsOf(9, 10), 2);
        due("999 and 1000", joinsOf(999, 1000), -1);
        says("the most that may be, of these of the least UNLIKE together");
        SandFlags x = new SandFlags();
        due("no children", x.joins(0), 0);
        due("no children", x.joins(1), 0);
        for (int i = 0; i < 8; i++) {
            x.child(false, 11111);
        }
        due("no FOUND ones", x.joins(0), 0);
        due("no FOUND ones", x.joined(7), -9);
        due("no FOUND ones", x.sure(7), 0);
        for (int i = 0; i < 8; i++) {
            x.child(true, 11111 + 11 * (i % 2));
            due("how many", x.joins(0), i + 1);
        }
        due("together", x.joins(1), 8);
        for (int i = 0; i < 8; i++) {
            due("by numbers", x.joined(i), i);
        }
        due("a ninth LOST one", x.child(false, 0), -6);
        due("a ninth FOUND one", x.child(true, 0), -6);
        says("LOST ones by numbers have the least FOUND one (none behind all)");
        SandFlags y = new SandFlags();
        y.child(true, 10);
        y.child(true, 10);
        y.child(false, 10);
        due("the least", y.joined(0), 0);
        y.child(false, 10);
        y.child(false, 10);
        due("the next", y.joined(1), 1);
        due("none behind all", y.joined(2), -9);
        due("no such child", y.joined(3), -1);
        SandFlags z = new SandFlags();
        z.child(false, 11000);
        z.child(false, 0);
        z.child(true, 0);
        due("two, one FOUND one: the less UNLIKE", z.joined(0), -9);
        due("two, one FOUND one: the less UNLIKE", z.joined(1), 0);
        z.child(true, 11);
        due("the most goes ahead of the least UNLIKE", z.joins(1), 4);
        due("the most goes ahead of the least UNLIKE", z.joined(1), 1);
    }

    private static void sureOnes() {
        says("SURE if no other FOUND one is as little or less UNLIKE to that LOST one");
        SandFlags x = new SandFlags();
        x.child(true, 33);
        x.child(false, 1);
        x.child(true, 0);
        due("another of 2, own 1", x.sure(0), 1);
        x.child(true, 2);
        due("another of 1, own 1", x.sure(0), 0);
        due("joined to the first", x.joined(0), 1);
        x.child(true, 1);
        due("own 0", x.sure(0), 1);
        x.child(true, 1);
        due("another of 0", x.sure(0), 0);
        says("and no other LOST one to that FOUND one");
        SandFlags y = new SandFlags();
        y.child(false, 22);
        y.child(false, 1);
        y.child(true, 0);
        due("another of 2, own 1", y.sure(1), 1);
        due("none", y.sure(0), 0);
        y.child(false, 2);
        due("another of 1, own 1", y.sure(1), 0);
        due("no such child", y.sure(3), -1);
        SandFlags z = new SandFlags();
        z.child(false, 0);
        z.child(true, 0);
        z.child(false, 0);
        due("the first LOST one", z.sure(0), 0);
        z.child(true, 0);
        due("the second LOST one", z.sure(1), 0);
        SandFlags less = new SandFlags();
        less.child(false, 0);
        less.child(true, 11);
        less.child(false, 10);
        less.child(true, 990);
        due("joined by the most", less.joined(0), 1);
        due("a FOUND one as little UNLIKE", less.sure(0), 0);
        due("the other", less.sure(1), 1);
        says("less UNLIKE");
        SandFlags most = new SandFlags();
        most.child(false, 0);
        most.child(true, 1);
        most.child(false, 11);
        most.child(true, 66000);
        due("joined by the most", most.joined(0), 1);
        due("another FOUND one is less UNLIKE", most.sure(0), 0);
        SandFlags other = new SandFlags();
        other.child(true, 0);
        other.child(false, 1);
        other.child(true, 11);
        other.child(false, 66000);
        due("joined by the most", other.joined(0), 1);
        due("joined by the most", other.joined(1), 0);
        due("another LOST one is less UNLIKE", other.sure(1), 0);
    }

    private static int rescuesOf(int minute, int cell) {
        SandFlags x = new SandFlags();
        x.report(3, 100, 10);
        x.report(3, minute, cell);
        return x.rescues(3);
    }

    private static void rescues() {
        says("of one RESCUE if they are of one BEACH, no more than 5 minutes and 3 CELLS apart");
        for (int minute = 93; minute <= 107; minute++) {
            for (int cell = 5; cell <= 15; cell++) {
                boolean one = Math.abs(minute - 100) <= 5 && Math.abs(cell - 10) <= 3;
                due("minute " + minute + ", CELL " + cell, rescuesOf(minute, cell), one ? 1 : 2);
            }
        }
        SandFlags x = new SandFlags();
        x.report(0, 100, 10);
        x.report(1, 100, 10);
        due("another BEACH", x.rescues(0), 1);
        due("another BEACH", x.rescues(1), 1);
        due("none", x.rescues(2), 0);
        due("none", x.rescue(2, 0), -9);
        x.report(0, 0, 0);
        x.report(0, 959, 0);
        x.report(0, 0, 23);
        due("the first and the last minute, the first and the last CELL", x.rescues(0), 4);
        says("or each with a third one so, and so on");
        SandFlags y = new SandFlags();
        for (int i = 0; i < 20; i++) {
            y.report(0, 10 * i, i % 2 * 3);
        }
        due("ten minutes apart", y.rescues(0), 20);
        for (int i = 0; i < 19; i++) {
            due("one between", y.report(0, 10 * i + 5, 3), 20 + i);
            due("two joined", y.rescues(0), 19 - i);
        }
        due("its first minute", y.rescue(0, 0), 0);
        due("no other one", y.rescue(0, 1), -9);
        due("the 40th", y.report(1, 959, 23), 39);
        due("the 41st", y.report(0, 0, 0), -6);
    }

    private static void rescuesInOrder() {
        says("A RESCUE's first minute is the least of its REPORTS");
        SandFlags x = new SandFlags();
        x.report(2, 300, 5);
        due("of one", x.rescue(2, 0), 300);
        x.report(2, 305, 5);
        due("of a later one", x.rescue(2, 0), 300);
        x.report(2, 295, 5);
        due("of an earlier one", x.rescue(2, 0), 295);
        says("the i-th RESCUE (by first minutes, of one by their least REPORTS); -9 there is none such");
        x.report(2, 100, 5);
        x.report(2, 295, 20);
        x.report(2, 959, 0);
        x.report(2, 0, 23);
        int[] want = {0, 100, 295, 295, 959};
        for (int i = 0; i < 5; i++) {
            due("the " + i + "-th", x.rescue(2, i), want[i]);
        }
        due("one too many", x.rescue(2, 5), -9);
        due("below 0", x.rescue(2, -1), -9);
        due("the greatest int", x.rescue(2, Integer.MAX_VALUE), -9);
        due("the least int", x.rescue(2, Integer.MIN_VALUE), -9);
        says("two RESCUES that a REPORT joins are one");
        x.report(2, 103, 8);
        x.report(2, 97, 2);
        due("its first minute", x.rescue(2, 1), 97);
        x.report(2, 300, 8);
        x.report(2, 300, 11);
        x.report(2, 300, 14);
        due("not yet", x.rescues(2), 5);
        x.report(2, 300, 17);
        due("one less", x.rescues(2), 4);
        due("the last", x.rescue(2, 3), 959);
        due("no more", x.rescue(2, 4), -9);
    }

    // ---- VI.

    private static void rules() {
        says("COLOUR: of the RULES in force whose BOUNDS are all met the greatest; 0 without");
        SandFlags x = new SandFlags();
        due("no RULES", x.colour(0, 0), 0);
        x.gauge(0, 1, 9);
        x.crowd(0, 0, 999);
        x.jelly(0, 0, 999);
        x.rule(0, 9, 999, 999, 2);
        due("all met, the greatest of all", x.colour(0, 0), 2);
        x.gauge(0, 1, 8);
        due("SWELL by 1 not", x.colour(0, 0), 0);
        x.gauge(0, 1, 9);
        x.crowd(0, 0, 998);
        due("heads by 1 not", x.colour(0, 0), 0);
        x.crowd(0, 0, 999);
        x.jelly(0, 0, 998);
        due("jellies by 1 not", x.colour(0, 0), 0);
        x.rule(0, 10, 0, 0, 4);
        due("SWELL from 10: never", x.colour(0, 0), 0);
        x.rule(0, 0, 0, 0, 1);
        due("from 0 each", x.colour(0, 0), 1);
        due("from 0 each, nothing told", x.colour(3, 15), 1);
        x.jelly(0, 0, 999);
        due("the greatest of two", x.colour(0, 0), 2);
        says("(SWELL as the greatest that there may be)");
        SandFlags missing = new SandFlags();
        missing.rule(0, 9, 0, 0, 3);
        due("none told: 9", missing.colour(0, 0), 3);
        missing.gauge(15, 1, 8);
        due("8 told", missing.colour(0, 0), 0);
        says("in force from a DAY on (now or later); RULES (20 at most)");
        SandFlags y = new SandFlags();
        due("the last DAY", y.rule(300, 0, 0, 0, 4), 0);
        due("a DAY on", y.rule(1, 0, 0, 0, 3), 1);
        due("now", y.rule(0, 0, 0, 0, 1), 2);
        due("behind the last DAY", y.rule(301, 0, 0, 0, 4), -6);
        due("ahead of now", y.rule(-1, 0, 0, 0, 4), -4);
        due("DAY 0", y.colour(0, 0), 1);
        y.days(1);
        due("DAY 1", y.colour(0, 0), 3);
        due("ahead of now", y.rule(0, 0, 0, 0, 4), -4);
        due("now", y.rule(1, 0, 0, 0, 1), 3);
        for (int i = 4; i < 20; i++) {
            due("its number", y.rule(299, 0, 0, 0, 1 + i % 4), i);
        }
        due("the 21st", y.rule(299, 0, 0, 0, 1), -6);
        y.days(298);
        due("DAY 299: the 20th is in force", y.colour(0, 0), 4);
    }

    private static void jellies() {
        says("jellies of that HOUR and the two ahead together");
        for (int at = 0; at < 16; at++) {
            SandFlags x = new SandFlags();
            x.rule(0, 0, 0, 1, 2);
            x.jelly(1, at, 1);
            for (int hour = 0; hour < 16; hour++) {
                due("told of HOUR " + at + ", HOUR " + hour, x.colour(1, hour), hour >= at && hour <= at + 2 ? 2 : 0);
            }
            due("another BEACH", x.colour(0, at), 0);
        }
        SandFlags x = new SandFlags();
        x.rule(0, 0, 0, 999, 3);
        x.jelly(2, 0, 333);
        x.jelly(2, 1, 333);
        due("two of them", x.colour(2, 1), 0);
        x.jelly(2, 2, 332);
        due("998 together", x.colour(2, 2), 0);
        x.jelly(2, 2, 333);
        due("999 together", x.colour(2, 2), 3);
        due("the two behind", x.colour(2, 3), 0);
        x.jelly(2, 13, 999);
        x.jelly(2, 14, 999);
        x.jelly(2, 15, 999);
        due("2997 together", x.colour(2, 15), 3);
    }

    private static void days() {
        says("DAYS go on from 0 (300 at most)");
        SandFlags x = new SandFlags();
        due("at first", x.count(0), 0);
        due("301", x.days(301), -6);
        due("300", x.days(300), 300);
        due("one more", x.days(1), -6);
        due("none", x.days(0), 300);
        due("a RULE of the last DAY", x.rule(300, 0, 0, 0, 1), 0);
        due("in force", x.colour(0, 0), 1);
        says("as a DAY passes it is none any more (TIDE, SWELL MISSING, CROWDS, jellies 0)");
        SandFlags y = new SandFlags();
        y.guards(1);
        for (int hour = 0; hour < 16; hour += 15) {
            y.gauge(hour, 0, 5);
            y.gauge(hour, 1, 5);
            for (int beach = 0; beach < 4; beach += 3) {
                y.crowd(beach, hour, 7);
                y.jelly(beach, hour, 7);
            }
        }
        due("a roster of today", y.roster(0, 0), 126);
        due("refused", y.days(301), -6);
        due("refused: as told", y.may(0, 0), 5);
        due("refused: as told", y.roster(15, 15), 126);
        due("a DAY", y.days(1), 1);
        due("no heads", y.roster(0, 0), 0);
        due("GUARDS stay", y.count(1), 1);
        dueMay("TIDE", y, 0, -9, 9);
        dueMay("TIDE", y, 15, -9, 9);
        due("SWELL may be", y.may(0, 2), 9);
        due("SWELL may be", y.may(15, 2), 9);
        for (int hour = 0; hour < 16; hour += 15) {
            due("TIDE", y.gauge(hour, 0, 1), 99);
            due("SWELL", y.gauge(hour, 1, 1), 99);
            for (int beach = 0; beach < 4; beach += 3) {
                due("heads", y.crowd(beach, hour, 1), 0);
                due("jellies", y.jelly(beach, hour, 1), 0);
            }
        }
        due("no DAY", y.days(0), 1);
        due("no DAY: as told", y.crowd(3, 15, 1), 1);
    }

    private static void headsCounted() {
        says("ESTIMATE: 24 times their sum by how many, cut; LEAST their sum; MOST that and 30 for each other CELL");
        SandFlags x = new SandFlags();
        due("none drawn", x.counted(3, 0), -5);
        due("one CELL", x.drawn(3, 23, 0), 1);
        due("0 heads: ESTIMATE", x.counted(3, 0), 0);
        due("0 heads: LEAST", x.counted(3, 1), 0);
        due("0 heads: MOST", x.counted(3, 2), 690);
        due("told again", x.drawn(3, 23, 30), 1);
        due("30 heads: ESTIMATE", x.counted(3, 0), 720);
        due("30 heads: LEAST", x.counted(3, 1), 30);
        due("30 heads: MOST", x.counted(3, 2), 720);
        x.drawn(3, 0, 1);
        x.drawn(3, 1, 0);
        x.drawn(3, 2, 0);
        x.drawn(3, 3, 0);
        due("148.8 by five, cut", x.counted(3, 0), 148);
        due("MOST", x.counted(3, 2), 31 + 19 * 30);
        says("(-1: it is not drawn any more)");
        due("one less", x.drawn(3, 23, -1), 4);
        due("not drawn ahead of it", x.drawn(3, 22, -1), 4);
        due("LEAST", x.counted(3, 1), 1);
        for (int cell = 0; cell < 24; cell++) {
            x.drawn(3, cell, 30);
        }
        due("all 24: ESTIMATE", x.counted(3, 0), 720);
        due("all 24: MOST", x.counted(3, 2), 720);
        for (int cell = 0; cell < 23; cell++) {
            due("fewer", x.drawn(3, cell, -1), 23 - cell);
        }
        due("the last one", x.drawn(3, 23, -1), 0);
        due("none drawn any more", x.counted(3, 2), -5);
    }

    private static void counts() {
        says("11 .. 16 REFUSALS -1 .. -6; -9 for another what");
        SandFlags x = new SandFlags();
        for (int kind = 1; kind <= 6; kind++) {
            due("none", x.count(10 + kind), 0);
        }
        x.boat(32);
        due("-1", x.count(11), 1);
        x.joins(2);
        due("-2", x.count(12), 1);
        x.drift(0, 0, 0);
        due("-3", x.count(13), 1);
        x.days(-1);
        due("-4", x.count(14), 1);
        x.drifts();
        due("-5", x.count(15), 1);
        x.days(301);
        due("-6", x.count(16), 1);
        x.bank(4, 0, 0);
        x.gauge(0, 2, 0);
        x.gauge(0, 0, -10);
        x.bank(0, 0, 10);
        due("1000000000 less -1 is one of -1", x.count(11), 2);
        due("1000000000 less -2 is one of -2", x.count(12), 2);
        due("1000000000 less -4 is one of -4", x.count(14), 2);
        due("1000000000 less -6 is one of -6", x.count(16), 2);
        for (int what : new int[] {Integer.MIN_VALUE, -1, 10, 17, Integer.MAX_VALUE}) {
            due("what " + what, x.count(what), -9);
        }
        due("another what is no REFUSAL", x.count(12), 2);
        says("2 BATHERS, 3 SAVED, 4 LOST ones");
        SandFlags y = ripsAt(1);
        y.set(1, 5);
        for (int i = 0; i < 3; i++) {
            y.bather(12, 7);
        }
        due("none SAVED", y.count(3), 0);
        y.minutes(6);
        due("all BATHERS, in the water or not", y.count(2), 3);
        due("SAVED", y.count(3), 1);
        due("LOST", y.count(4), 2);
    }
}
