import java.util.Arrays;

/**
 * Flags on sand: rips and safe stretches hour by hour, flags, guards, bathers, one lost at sea,
 * lost children, reports, rules and heads counted. ../shared/DOC.md says what each call promises.
 */
public final class SandFlags {
    private static final int BEACHES = 4;
    private static final int CELLS = 24;
    private static final int HOURS = 16;
    private static final int GUARDS = 4;
    private static final int MOST_MILE = 40;
    private static final int MOST_BANK = 9;
    private static final int MOST_TIDE = 9;
    private static final int MOST_SWELL = 9;
    private static final int MOST_TOLD = 999;
    private static final int LAST_DAY = 300;

    private static final int UNTOLD = 99;
    private static final int NONE = -9;

    private static final int FINE = 0;
    private static final int NOBODY = -1;
    private static final int OTHER = -2;
    private static final int STATE = -3;
    private static final int BELOW = -4;
    private static final int MISSING = -5;
    private static final int ROOM = -6;
    private static final int REFUSAL_KINDS = 6;
    private static final int SIGNED_REFUSALS = 1000000000;

    private final int[] refusals = new int[REFUSAL_KINDS + 1];
    private final Today today;
    private final Shore shore;
    private final FlagPlan flagPlan;
    private final Rota rota;
    private final Water sea;
    private final Search search;
    private final Children children;
    private final Reports reports;
    private final RuleBook ruleBook;
    private final HeadCount headCount;
    private int day;

    public SandFlags() {
        today = new Today();
        shore = new Shore(today);
        flagPlan = new FlagPlan(shore);
        rota = new Rota(today);
        sea = new Water();
        search = new Search();
        children = new Children();
        reports = new Reports();
        ruleBook = new RuleBook();
        headCount = new HeadCount();
    }

    // ---- I. beaches, banks, tide, swell and flags

    public int mile(int beach, int v) {
        if (!isBeach(beach)) {
            return refused(NOBODY);
        }
        int fault = outside(v, 0, MOST_MILE);
        return fault != FINE ? refused(fault) : rota.putMile(beach, v);
    }

    public int bank(int beach, int cell, int v) {
        if (!isBeach(beach) || !isCell(cell)) {
            return refusedSigned(NOBODY);
        }
        int fault = outside(v, -MOST_BANK, MOST_BANK);
        return fault != FINE ? refusedSigned(fault) : shore.putBank(beach, cell, v);
    }

    public int gauge(int hour, int what, int v) {
        if (!isHour(hour)) {
            return refusedSigned(NOBODY);
        }
        if (what != 0 && what != 1) {
            return refusedSigned(OTHER);
        }
        int fault = what == 0 ? outside(v, -MOST_TIDE, MOST_TIDE) : outside(v, 0, MOST_SWELL);
        if (fault != FINE && v != UNTOLD) {
            return refusedSigned(fault);
        }
        return what == 0 ? today.putTide(hour, v) : today.putSwell(hour, v);
    }

    public int may(int hour, int what) {
        if (!isHour(hour)) {
            return refusedSigned(NOBODY);
        }
        switch (what) {
            case 0:
                return today.leastTide(hour);
            case 1:
                return today.greatestTide(hour);
            case 2:
                return today.greatestSwell(hour);
            default:
                return refusedSigned(OTHER);
        }
    }

    public int safe(int beach, int cell, int hour) {
        if (!isBeach(beach) || !isCell(cell) || !isHour(hour)) {
            return refused(NOBODY);
        }
        return shore.safety(beach, cell, hour);
    }

    public int longest(int beach, int hour, int what) {
        if (!isBeach(beach) || !isHour(hour)) {
            return refused(NOBODY);
        }
        if (what != 0 && what != 1) {
            return refused(OTHER);
        }
        return what == 0 ? shore.longestRowStart(beach, hour) : shore.longestRowLength(beach, hour);
    }

    public int flags(int beach, int a, int b, int w) {
        if (!isBeach(beach) || !isSpan(a, b)) {
            return refused(NOBODY);
        }
        int fault = outside(w, 1, CELLS);
        return fault != FINE ? refused(fault) : flagPlan.lay(beach, a, b, w);
    }

    public int flagAt(int beach, int a, int b, int w, int hour) {
        if (!isBeach(beach) || !isSpan(a, b) || hour < a || hour > b) {
            return refused(NOBODY);
        }
        int fault = outside(w, 1, CELLS);
        if (fault != FINE) {
            return refused(fault);
        }
        flagPlan.lay(beach, a, b, w);
        return flagPlan.firstCellIn(hour);
    }

    // ---- II. crowds and guards

    public int crowd(int beach, int hour, int heads) {
        if (!isBeach(beach) || !isHour(hour)) {
            return refused(NOBODY);
        }
        int fault = outside(heads, 0, MOST_TOLD);
        if (fault != FINE) {
            return refused(fault);
        }
        rota.forgetPlan();
        return today.putHeads(beach, hour, heads);
    }

    public int guards(int n) {
        int fault = outside(n, 0, GUARDS);
        return fault != FINE ? refused(fault) : rota.putGuards(n);
    }

    public int roster(int a, int b) {
        if (!isSpan(a, b)) {
            return refused(NOBODY);
        }
        return Rota.isTooLong(a, b) ? refused(ROOM) : rota.leastRisk(a, b);
    }

    public int rosterAt(int a, int b, int guard, int hour) {
        if (!isSpan(a, b) || hour < a || hour > b || guard < 0 || guard >= rota.guardCount()) {
            return refused(NOBODY);
        }
        if (Rota.isTooLong(a, b)) {
            return refused(ROOM);
        }
        rota.leastRisk(a, b);
        return rota.placeOf(guard, hour - a);
    }

    // ---- III. the water

    public int water(int beach, int hour, int g) {
        if (!isBeach(beach) || !isHour(hour)) {
            return refused(NOBODY);
        }
        int fault = outside(g, 0, GUARDS);
        if (fault != FINE) {
            return refused(fault);
        }
        sea.open(g);
        for (int cell = 0; cell < CELLS; cell++) {
            sea.putRip(cell, shore.hasGreatestRip(beach, cell, hour));
        }
        return 1;
    }

    public int set(int what, int v) {
        if (what != 0 && what != 1) {
            return refused(OTHER);
        }
        int fault = what == 0 ? outside(v, 1, CELLS) : outside(v, 1, Water.MOST_LONG);
        if (fault != FINE) {
            return refused(fault);
        }
        return what == 0 ? sea.putSweep(v) : sea.putLong(v);
    }

    public int bather(int cell, int out) {
        if (!sea.isOpen()) {
            return refused(MISSING);
        }
        if (!isCell(cell)) {
            return refused(NOBODY);
        }
        int fault = outside(out, 0, Water.MOST_OUT);
        if (fault == FINE && sea.isFull()) {
            fault = ROOM;
        }
        return fault != FINE ? refused(fault) : sea.letIn(cell, out);
    }

    public int minutes(int n) {
        if (!sea.isOpen()) {
            return refused(MISSING);
        }
        int fault = outside(n, 1, sea.minutesLeft());
        return fault != FINE ? refused(fault) : sea.pass(n);
    }

    public int batherOf(int bather, int what) {
        if (!sea.isOpen()) {
            return refused(MISSING);
        }
        if (bather < 0 || bather >= sea.batherCount()) {
            return refused(NOBODY);
        }
        switch (what) {
            case 0:
                return sea.outOf(bather);
            case 1:
                return sea.stateOf(bather);
            case 2:
                return sea.changeOf(bather);
            default:
                return refused(OTHER);
        }
    }

    // ---- IV. the search

    public int parts(int place, int v) {
        if (!isPlace(place)) {
            return refused(NOBODY);
        }
        int fault = outside(v, 0, Search.MOST_PARTS);
        return fault != FINE ? refused(fault) : search.putParts(place, v);
    }

    public int drift(int l, int s, int r) {
        int whole = Search.DRIFT_WHOLE;
        int fault = firstOf(outside(l, 0, whole), firstOf(outside(s, 0, whole), outside(r, 0, whole)));
        if (fault == FINE && l + s + r != whole) {
            fault = STATE;
        }
        return fault != FINE ? refused(fault) : search.putDrift(l, s, r);
    }

    public int drifts() {
        int fault = search.faultOf(1);
        return fault != FINE ? refused(fault) : search.passMinute();
    }

    public int look(int place, int q) {
        if (!isPlace(place)) {
            return refused(NOBODY);
        }
        if (search.total() == 0) {
            return refused(MISSING);
        }
        int fault = firstOf(outside(q, 1, Search.EIGHTHS), search.faultOf(1));
        return fault != FINE ? refused(fault) : search.lookAt(place, q);
    }

    public long now(int place, boolean all) throws IllegalArgumentException {
        if (all) {
            return search.total();
        }
        if (!isPlace(place)) {
            throw new IllegalArgumentException("no such place");
        }
        return search.partsAt(place);
    }

    public int boat(int place) {
        return isPlace(place) ? search.putBoat(place) : refused(NOBODY);
    }

    public int seek(int m, int q, int i) {
        int fault = seekFault(m, q);
        if (fault == FINE && (i < 0 || i >= m)) {
            fault = NOBODY;
        }
        if (fault != FINE) {
            return refused(fault);
        }
        search.findBestLooks(m, q);
        return search.bestPlace(i);
    }

    public int chance(int m, int q) {
        int fault = seekFault(m, q);
        if (fault != FINE) {
            return refused(fault);
        }
        search.findBestLooks(m, q);
        return search.bestMillionths(m);
    }

    // ---- V. children and reports

    public int child(boolean found, int marks) {
        int fault = outside(marks, 0, Children.MOST_MARKS);
        if (fault == FINE && children.isFull(found)) {
            fault = ROOM;
        }
        return fault != FINE ? refused(fault) : children.add(found, marks);
    }

    public int joins(int what) {
        switch (what) {
            case 0:
                return children.joinCount();
            case 1:
                return children.unlikeTogether();
            default:
                return refused(OTHER);
        }
    }

    public int joined(int lost) {
        return children.isLost(lost) ? children.foundOf(lost) : refused(NOBODY);
    }

    public int sure(int lost) {
        if (!children.isLost(lost)) {
            return refused(NOBODY);
        }
        return children.isSure(lost) ? 1 : 0;
    }

    public int report(int beach, int minute, int cell) {
        if (!isBeach(beach) || !isCell(cell)) {
            return refused(NOBODY);
        }
        int fault = outside(minute, 0, Reports.LAST_MINUTE);
        if (fault == FINE && reports.isFull()) {
            fault = ROOM;
        }
        return fault != FINE ? refused(fault) : reports.add(beach, minute, cell);
    }

    public int rescues(int beach) {
        return isBeach(beach) ? reports.rescueCount(beach) : refused(NOBODY);
    }

    public int rescue(int beach, int i) {
        return isBeach(beach) ? reports.firstMinuteOf(beach, i) : refused(NOBODY);
    }

    // ---- VI. rules, jellies, days and heads counted

    public int rule(int day, int swell, int heads, int jellies, int colour) {
        int bounds = firstOf(outside(swell, 0, MOST_TOLD),
                firstOf(outside(heads, 0, MOST_TOLD), outside(jellies, 0, MOST_TOLD)));
        int rest = firstOf(outside(day, this.day, LAST_DAY), outside(colour, 1, RuleBook.MOST_COLOUR));
        int fault = firstOf(bounds, rest);
        if (fault == FINE && ruleBook.isFull()) {
            fault = ROOM;
        }
        return fault != FINE ? refused(fault) : ruleBook.add(day, swell, heads, jellies, colour);
    }

    public int jelly(int beach, int hour, int n) {
        if (!isBeach(beach) || !isHour(hour)) {
            return refused(NOBODY);
        }
        int fault = outside(n, 0, MOST_TOLD);
        return fault != FINE ? refused(fault) : today.putJellies(beach, hour, n);
    }

    public int colour(int beach, int hour) {
        if (!isBeach(beach) || !isHour(hour)) {
            return refused(NOBODY);
        }
        return ruleBook.greatestColour(day, today.greatestSwell(hour), today.headsAt(beach, hour),
                today.recentJellies(beach, hour));
    }

    public int days(int n) {
        int fault = outside(n, 0, LAST_DAY - day);
        if (fault != FINE) {
            return refused(fault);
        }
        if (n > 0) {
            day += n;
            today.forget();
            rota.forgetPlan();
        }
        return day;
    }

    public int drawn(int beach, int cell, int heads) {
        if (!isBeach(beach) || !isCell(cell)) {
            return refused(NOBODY);
        }
        int fault = outside(heads, HeadCount.UNDRAWN, HeadCount.MOST_HEADS);
        return fault != FINE ? refused(fault) : headCount.put(beach, cell, heads);
    }

    public int counted(int beach, int what) {
        if (!isBeach(beach)) {
            return refused(NOBODY);
        }
        if (what < 0 || what > 2) {
            return refused(OTHER);
        }
        int cells = headCount.drawnCells(beach);
        if (cells <= 0) {
            return refused(MISSING);
        }
        int sum = headCount.sum(beach);
        switch (what) {
            case 0:
                return CELLS * sum / cells;
            case 1:
                return sum;
            default:
                return sum + HeadCount.MOST_HEADS * (CELLS - cells);
        }
    }

    public int count(int what) {
        switch (what) {
            case 0:
                return day;
            case 1:
                return rota.guardCount();
            case 2:
                return sea.batherCount();
            case 3:
                return sea.countIn(Water.SAVED);
            case 4:
                return sea.countIn(Water.LOST);
            case 5:
                return reports.size();
            case 6:
                return ruleBook.size();
            case 7:
                return children.size(false);
            case 8:
                return children.size(true);
            case 9:
                return search.madeCount();
            default:
                return refusalsOf(what - 10);
        }
    }

    // ---- what is refused

    private static boolean isBeach(int beach) {
        return beach >= 0 && beach < BEACHES;
    }

    private static boolean isCell(int cell) {
        return cell >= 0 && cell < CELLS;
    }

    private static boolean isHour(int hour) {
        return hour >= 0 && hour < HOURS;
    }

    private static boolean isSpan(int a, int b) {
        return isHour(a) && isHour(b) && a <= b;
    }

    private static boolean isPlace(int place) {
        return place >= 0 && place < Search.PLACES;
    }

    private static int outside(int v, int least, int most) {
        if (v < least) {
            return BELOW;
        }
        return v > most ? ROOM : FINE;
    }

    /** Of two faults of numbers the one that every call tells first. */
    private static int firstOf(int fault, int other) {
        if (fault == BELOW || other == BELOW) {
            return BELOW;
        }
        return fault == FINE ? other : fault;
    }

    private int seekFault(int m, int q) {
        int fault = firstOf(outside(m, 1, Search.MOST_LOOKS), outside(q, 1, Search.EIGHTHS));
        // each minute of a seeking makes a look and a drift
        return fault != FINE ? fault : search.faultOf(2 * m);
    }

    private int refused(int number) {
        int kind = -number;
        if (kind >= 1 && kind <= REFUSAL_KINDS) {
            refusals[kind]++;
        }
        return number;
    }

    private int refusedSigned(int number) {
        return SIGNED_REFUSALS - refused(number);
    }

    private int refusalsOf(int kind) {
        return kind >= 1 && kind <= REFUSAL_KINDS ? refusals[kind] : NONE;
    }

    /** What is told of the hours of the day that is now. */
    private static final class Today {
        private static final int TIDE_SLACK = 3;
        private static final int JELLY_HOURS = 3;

        private final int[] tide = new int[HOURS];
        private final int[] swell = new int[HOURS];
        private final int[][] heads = new int[BEACHES][HOURS];
        private final int[][] jellies = new int[BEACHES][HOURS];

        Today() {
            Arrays.fill(tide, UNTOLD);
            Arrays.fill(swell, UNTOLD);
        }

        void forget() {
            Arrays.fill(tide, UNTOLD);
            Arrays.fill(swell, UNTOLD);
            for (int beach = 0; beach < BEACHES; beach++) {
                Arrays.fill(heads[beach], 0);
                Arrays.fill(jellies[beach], 0);
            }
        }

        int putTide(int hour, int v) {
            int was = tide[hour];
            tide[hour] = v;
            return was;
        }

        int putSwell(int hour, int v) {
            int was = swell[hour];
            swell[hour] = v;
            return was;
        }

        int putHeads(int beach, int hour, int v) {
            int was = heads[beach][hour];
            heads[beach][hour] = v;
            return was;
        }

        int putJellies(int beach, int hour, int v) {
            int was = jellies[beach][hour];
            jellies[beach][hour] = v;
            return was;
        }

        int headsAt(int beach, int hour) {
            return heads[beach][hour];
        }

        int recentJellies(int beach, int hour) {
            int sum = 0;
            for (int h = Math.max(0, hour - JELLY_HOURS + 1); h <= hour; h++) {
                sum += jellies[beach][h];
            }
            return sum;
        }

        int leastTide(int hour) {
            int ahead = tideAhead(hour);
            int behind = tideBehind(hour);
            if (ahead != UNTOLD && behind != UNTOLD) {
                return Math.min(ahead, behind);
            }
            if (ahead == UNTOLD && behind == UNTOLD) {
                return -MOST_TIDE;
            }
            return Math.max(-MOST_TIDE, Math.min(ahead, behind) - TIDE_SLACK);
        }

        int greatestTide(int hour) {
            int ahead = tideAhead(hour);
            int behind = tideBehind(hour);
            if (ahead != UNTOLD && behind != UNTOLD) {
                return Math.max(ahead, behind);
            }
            // UNTOLD lies above every tide, so the least of the two is the told one
            return Math.min(MOST_TIDE, Math.min(ahead, behind) + TIDE_SLACK);
        }

        /** The nearest told tide from this hour back; a told hour is its own neighbour on both sides. */
        private int tideAhead(int hour) {
            for (int h = hour; h >= 0; h--) {
                if (tide[h] != UNTOLD) {
                    return tide[h];
                }
            }
            return UNTOLD;
        }

        private int tideBehind(int hour) {
            for (int h = hour; h < HOURS; h++) {
                if (tide[h] != UNTOLD) {
                    return tide[h];
                }
            }
            return UNTOLD;
        }

        int leastSwell(int hour) {
            return swell[hour] == UNTOLD ? 0 : swell[hour];
        }

        int greatestSwell(int hour) {
            if (swell[hour] != UNTOLD) {
                return swell[hour];
            }
            int greatest = -1;
            for (int h = 0; h < HOURS; h++) {
                if (swell[h] != UNTOLD && swell[h] > greatest) {
                    greatest = swell[h];
                }
            }
            return greatest < 0 ? MOST_SWELL : greatest;
        }
    }

    /** Banks of all beaches, and what they make of the hours: rips and safe cells. */
    private static final class Shore {
        static final int SAFE = 2;
        private static final int DOUBTFUL = 1;
        private static final int BAD = 0;
        private static final int RIP_SWELL = 3;
        private static final int RIP_DEPTH = 2;
        private static final int RIP_STEP = 2;
        private static final int GOOD_DEPTH = 4;
        private static final int GOOD_SWELL = 6;

        private final Today today;
        private final int[][] bank = new int[BEACHES][CELLS];

        Shore(Today today) {
            this.today = today;
        }

        int putBank(int beach, int cell, int v) {
            int was = bank[beach][cell];
            bank[beach][cell] = v;
            return was;
        }

        boolean hasGreatestRip(int beach, int cell, int hour) {
            return today.greatestSwell(hour) >= RIP_SWELL
                    && today.greatestTide(hour) >= ripTide(beach, cell);
        }

        /**
         * What is good by a swell is good by every lesser one, and the tides that are good by a swell
         * are one run: so safe is judged by the greatest swell, and bad by the least.
         */
        int safety(int beach, int cell, int hour) {
            int leastTide = today.leastTide(hour);
            int greatestTide = today.greatestTide(hour);
            int lowest = bank[beach][cell];
            if (leastTide >= lowest && greatestTide <= highestGood(beach, cell, today.greatestSwell(hour))) {
                return SAFE;
            }
            int highest = highestGood(beach, cell, today.leastSwell(hour));
            return Math.max(leastTide, lowest) <= Math.min(greatestTide, highest) ? DOUBTFUL : BAD;
        }

        /** The highest tide by which a cell is good; below its bank if there is none. */
        private int highestGood(int beach, int cell, int swell) {
            int lowest = bank[beach][cell];
            if (swell > GOOD_SWELL) {
                return lowest - 1;
            }
            int highest = lowest + GOOD_DEPTH;
            if (swell >= RIP_SWELL) {
                for (int c = Math.max(0, cell - 1); c <= Math.min(CELLS - 1, cell + 1); c++) {
                    highest = Math.min(highest, ripTide(beach, c) - 1);
                }
            }
            return highest;
        }

        /** The lowest tide that makes a rip at a cell, above all tides if none does. */
        private int ripTide(int beach, int cell) {
            int[] row = bank[beach];
            boolean belowLeft = cell == 0 || row[cell - 1] - row[cell] >= RIP_STEP;
            boolean belowRight = cell == CELLS - 1 || row[cell + 1] - row[cell] >= RIP_STEP;
            return belowLeft && belowRight ? row[cell] + RIP_DEPTH : MOST_TIDE + 1;
        }

        int longestRowStart(int beach, int hour) {
            int length = longestRowLength(beach, hour);
            if (length == 0) {
                return NONE;
            }
            int row = 0;
            for (int cell = 0; cell < CELLS; cell++) {
                row = safety(beach, cell, hour) == SAFE ? row + 1 : 0;
                if (row == length) {
                    return cell - length + 1;
                }
            }
            return NONE;
        }

        int longestRowLength(int beach, int hour) {
            int row = 0;
            int longest = 0;
            for (int cell = 0; cell < CELLS; cell++) {
                row = safety(beach, cell, hour) == SAFE ? row + 1 : 0;
                longest = Math.max(longest, row);
            }
            return longest;
        }
    }

    /** Flags for some hours of one beach, moved fewest. */
    private static final class FlagPlan {
        private static final int HUGE = 1000;

        private final Shore shore;
        private final boolean[] stretch = new boolean[HOURS * CELLS];
        private final boolean[] open = new boolean[HOURS];
        /** By hour and cell: the fewest moves from that hour on if the latest stretch begins at that cell. */
        private final int[][] moves = new int[HOURS + 1][CELLS];
        private final int[] firstCell = new int[HOURS];

        FlagPlan(Shore shore) {
            this.shore = shore;
        }

        int lay(int beach, int a, int b, int w) {
            Arrays.fill(moves[b + 1], 0);
            for (int hour = b; hour >= a; hour--) {
                markStretches(beach, hour, w);
                layMoves(hour);
            }
            return setFlags(a, b);
        }

        int firstCellIn(int hour) {
            return firstCell[hour];
        }

        private void markStretches(int beach, int hour, int w) {
            int row = 0;
            open[hour] = false;
            for (int cell = CELLS - 1; cell >= 0; cell--) {
                row = shore.safety(beach, cell, hour) == Shore.SAFE ? row + 1 : 0;
                stretch[hour * CELLS + cell] = row >= w;
                open[hour] |= row >= w;
            }
        }

        private void layMoves(int hour) {
            int moved = fewestFrom(hour) + 1;
            for (int cell = 0; cell < CELLS; cell++) {
                int stay = moves[hour + 1][cell];
                if (!open[hour]) {
                    moves[hour][cell] = stay;
                } else {
                    moves[hour][cell] = stretch[hour * CELLS + cell] ? Math.min(stay, moved) : moved;
                }
            }
        }

        /** The fewest moves behind this hour, whichever of its stretches is set in it. */
        private int fewestFrom(int hour) {
            int fewest = HUGE;
            for (int cell = 0; cell < CELLS; cell++) {
                if (stretch[hour * CELLS + cell]) {
                    fewest = Math.min(fewest, moves[hour + 1][cell]);
                }
            }
            return fewest;
        }

        private int setFlags(int a, int b) {
            int latest = NONE;
            int made = 0;
            for (int hour = a; hour <= b; hour++) {
                firstCell[hour] = NONE;
                if (open[hour]) {
                    int cell = leastCell(hour, latest);
                    firstCell[hour] = cell;
                    // the first stretch of all is set, not moved
                    made += latest == NONE || latest == cell ? 0 : 1;
                    latest = cell;
                }
            }
            return made;
        }

        /** The least stretch of an open hour that keeps to the fewest moves. */
        private int leastCell(int hour, int latest) {
            int due = latest == NONE ? fewestFrom(hour) : moves[hour][latest];
            for (int cell = 0; cell < CELLS; cell++) {
                int move = latest == NONE || latest == cell ? 0 : 1;
                if (stretch[hour * CELLS + cell] && move + moves[hour + 1][cell] == due) {
                    return cell;
                }
            }
            return NONE;
        }
    }

    /**
     * Guards by hours, rests and miles, at the least risk. Guards are alike for the risk: all that
     * counts behind an hour is how many are fresh at each beach (one hour there behind a rest), how
     * many have rested, and that all others must rest. A spread says how many of some guards are at
     * each beach; there are 70 of four guards at most, numbered by their size.
     */
    private static final class Rota {
        private static final int MOST_HOURS = 6;
        private static final int NEAR_MILES = 10;
        private static final int RISK_PARTS = 12;
        private static final int SPREADS = 70;
        private static final int CODES = 625;
        private static final int[] CODE_OF_ONE = {1, 5, 25, 125};
        private static final int RESTS = GUARDS + 1;
        private static final int RESTED = BEACHES;
        private static final int TIRED = BEACHES + 1;
        private static final int HUGE = 1000000000;
        private static final int FIRST_MILES = 5;

        private final Today today;
        private final int[] mileOf = new int[BEACHES];
        private final int[] code = new int[SPREADS];
        private final int[] size = new int[SPREADS];
        private final int[] spreadOf = new int[CODES];
        /** By spread and beach: how many guards are there. */
        private final int[] there = new int[SPREADS * BEACHES];
        /** Whether fresh guards in one spread (times SPREADS) may go on to be, the others resting, in another. */
        private final boolean[] follows = new boolean[SPREADS * SPREADS];
        private final int[][] risk = new int[MOST_HOURS][SPREADS];
        /** The least risk by the spread of those who go on and by how many have rested. */
        private final int[] goOn = new int[SPREADS * RESTS];
        /** By step, spread of the fresh and how many have rested: the least risk from that step on. */
        private final int[][] least = new int[MOST_HOURS + 1][SPREADS * RESTS];
        private final int[] latest = new int[GUARDS];
        private final int[] place = new int[MOST_HOURS * GUARDS];
        private int guards;
        private boolean followsKnown;
        private int planFrom = NONE;
        private int planTo = NONE;
        private int planRisk;

        Rota(Today today) {
            this.today = today;
            for (int beach = 0; beach < BEACHES; beach++) {
                mileOf[beach] = FIRST_MILES * beach;
            }
            numberSpreads();
        }

        private void numberSpreads() {
            int spread = 0;
            for (int all = 0; all <= GUARDS; all++) {
                for (int n0 = 0; n0 <= all; n0++) {
                    for (int n1 = 0; n1 <= all - n0; n1++) {
                        for (int n2 = 0; n2 <= all - n0 - n1 && spread < SPREADS; n2++) {
                            numberSpread(spread, n0, n1, n2, all - n0 - n1 - n2);
                            spread++;
                        }
                    }
                }
            }
        }

        private void numberSpread(int spread, int n0, int n1, int n2, int n3) {
            there[spread * BEACHES] = n0;
            there[spread * BEACHES + 1] = n1;
            there[spread * BEACHES + 2] = n2;
            there[spread * BEACHES + 3] = n3;
            for (int beach = 0; beach < BEACHES; beach++) {
                size[spread] += guardsAt(spread, beach);
                code[spread] += guardsAt(spread, beach) * CODE_OF_ONE[beach];
            }
            spreadOf[code[spread]] = spread;
        }

        static boolean isTooLong(int a, int b) {
            return b - a >= MOST_HOURS;
        }

        int guardCount() {
            return guards;
        }

        int putGuards(int n) {
            int was = guards;
            guards = n;
            forgetPlan();
            return was;
        }

        int putMile(int beach, int v) {
            int was = mileOf[beach];
            mileOf[beach] = v;
            followsKnown = false;
            forgetPlan();
            return was;
        }

        void forgetPlan() {
            planFrom = NONE;
        }

        int placeOf(int guard, int step) {
            return place[step * GUARDS + guard];
        }

        int leastRisk(int a, int b) {
            if (planFrom != a || planTo != b) {
                findFollowers();
                Arrays.fill(least[b - a + 1], 0);
                for (int step = b - a; step >= 0; step--) {
                    weighRisks(step, a + step);
                    weighGoingOn(step);
                    weighStates(step);
                }
                planRisk = least[0][guards];
                placeAll(b - a);
                planFrom = a;
                planTo = b;
            }
            return planRisk;
        }

        private int guardsAt(int spread, int beach) {
            return there[spread * BEACHES + beach];
        }

        private boolean isNear(int beach, int other) {
            return Math.abs(mileOf[beach] - mileOf[other]) <= NEAR_MILES;
        }

        private void findFollowers() {
            if (followsKnown) {
                return;
            }
            follows[0] = true;
            for (int spread = 1; spread < SPREADS; spread++) {
                int beach = firstBeach(spread);
                int less = spreadOf[code[spread] - CODE_OF_ONE[beach]];
                for (int next = 0; next < SPREADS; next++) {
                    follows[spread * SPREADS + next] = size[next] <= size[spread]
                            && (follows[less * SPREADS + next] || oneMoreFollows(less, beach, next));
                }
            }
            followsKnown = true;
        }

        private int firstBeach(int spread) {
            for (int beach = 0; beach < BEACHES; beach++) {
                if (guardsAt(spread, beach) > 0) {
                    return beach;
                }
            }
            return 0;
        }

        private boolean oneMoreFollows(int less, int beach, int next) {
            for (int to = 0; to < BEACHES; to++) {
                if (guardsAt(next, to) > 0 && isNear(beach, to)
                        && follows[less * SPREADS + spreadOf[code[next] - CODE_OF_ONE[to]]]) {
                    return true;
                }
            }
            return false;
        }

        private void weighRisks(int step, int hour) {
            for (int spread = 0; spread < SPREADS; spread++) {
                int sum = 0;
                for (int beach = 0; beach < BEACHES; beach++) {
                    sum += riskOf(today.headsAt(beach, hour), guardsAt(spread, beach));
                }
                risk[step][spread] = sum;
            }
        }

        private static int riskOf(int heads, int guardsThere) {
            return guardsThere < 0 ? 0 : RISK_PARTS * heads / (1 + guardsThere);
        }

        private void weighGoingOn(int step) {
            Arrays.fill(goOn, HUGE);
            for (int on = 0; on < SPREADS && size[on] <= guards; on++) {
                int left = guards - size[on];
                for (int fresh = 0; fresh < SPREADS && size[fresh] <= left; fresh++) {
                    int all = risk[step][spreadOf[code[on] + code[fresh]]]
                            + least[step + 1][fresh * RESTS + left - size[fresh]];
                    int at = on * RESTS + size[fresh];
                    goOn[at] = Math.min(goOn[at], all);
                }
                for (int rested = 1; rested <= left; rested++) {
                    int at = on * RESTS + rested;
                    goOn[at] = Math.min(goOn[at], goOn[at - 1]);
                }
            }
        }

        private void weighStates(int step) {
            for (int fresh = 0; fresh < SPREADS && size[fresh] <= guards; fresh++) {
                for (int rested = 0; rested <= guards - size[fresh]; rested++) {
                    least[step][fresh * RESTS + rested] = leastOfGoingOn(fresh, rested);
                }
            }
        }

        private int leastOfGoingOn(int fresh, int rested) {
            int best = HUGE;
            for (int on = 0; on < SPREADS && size[on] <= size[fresh]; on++) {
                if (follows[fresh * SPREADS + on]) {
                    best = Math.min(best, goOn[on * RESTS + rested]);
                }
            }
            return best;
        }

        private void placeAll(int lastStep) {
            Arrays.fill(latest, RESTED);
            int due = planRisk;
            for (int step = 0; step <= lastStep; step++) {
                placeFrom(step, 0, 0, 0, due);
                int all = 0;
                for (int guard = 0; guard < guards; guard++) {
                    int beach = place[step * GUARDS + guard];
                    all += beach == NONE ? 0 : CODE_OF_ONE[beach];
                    latest[guard] = stateBehind(latest[guard], beach);
                }
                due -= risk[step][spreadOf[all]];
            }
        }

        private static int stateBehind(int state, int beach) {
            if (beach == NONE) {
                return RESTED;
            }
            return state == RESTED ? beach : TIRED;
        }

        private boolean mayGo(int state, int beach) {
            return state == RESTED || state != TIRED && isNear(state, beach);
        }

        /** Sets the first places of this guard and all behind that keep to the risk that is due. */
        private boolean placeFrom(int step, int guard, int onCode, int freshCode, int due) {
            if (guard >= guards) {
                int on = spreadOf[onCode];
                int fresh = spreadOf[freshCode];
                int rested = guards - size[on] - size[fresh];
                return risk[step][spreadOf[onCode + freshCode]] + least[step + 1][fresh * RESTS + rested] == due;
            }
            int at = step * GUARDS + guard;
            boolean rested = latest[guard] == RESTED;
            for (int beach = 0; beach < BEACHES; beach++) {
                if (mayGo(latest[guard], beach)) {
                    int one = CODE_OF_ONE[beach];
                    place[at] = beach;
                    if (placeFrom(step, guard + 1, rested ? onCode : onCode + one,
                            rested ? freshCode + one : freshCode, due)) {
                        return true;
                    }
                }
            }
            place[at] = NONE;
            return placeFrom(step, guard + 1, onCode, freshCode, due);
        }
    }

    /** The water of a beach in an hour, its bathers, and the guards who go for them. */
    private static final class Water {
        static final int MOST_OUT = 30;
        static final int MOST_LONG = 60;
        static final int SAVED = 4;
        static final int LOST = 5;
        private static final int WELL = 0;
        private static final int IN_TROUBLE = 1;
        private static final int SEEN = 2;
        private static final int GONE_FOR = 3;
        private static final int MOST_BATHERS = 20;
        private static final int MOST_MINUTES = 200;
        private static final int TROUBLE_OUT = 6;
        private static final int TOWER = 12;

        private final boolean[] rip = new boolean[CELLS];
        private final int[] cell = new int[MOST_BATHERS];
        private final int[] out = new int[MOST_BATHERS];
        private final int[] state = new int[MOST_BATHERS];
        private final int[] changedAt = new int[MOST_BATHERS];
        private final int[] troubled = new int[MOST_BATHERS];
        private final int[] reached = new int[MOST_BATHERS];
        private final int[] freeFrom = new int[GUARDS];
        private int sweep = CELLS;
        private int longTime = 10;
        private boolean told;
        private int guards;
        private int bathers;
        private int minute;

        boolean isOpen() {
            return told;
        }

        void open(int g) {
            told = true;
            guards = g;
            bathers = 0;
            minute = 0;
            Arrays.fill(freeFrom, 0);
        }

        void putRip(int c, boolean isRip) {
            rip[c] = isRip;
        }

        int putSweep(int v) {
            int was = sweep;
            sweep = v;
            return was;
        }

        int putLong(int v) {
            int was = longTime;
            longTime = v;
            return was;
        }

        boolean isFull() {
            return bathers >= MOST_BATHERS;
        }

        int letIn(int c, int howFar) {
            int bather = bathers;
            cell[bather] = c;
            out[bather] = howFar;
            state[bather] = WELL;
            changedAt[bather] = 0;
            bathers++;
            return bather;
        }

        int batherCount() {
            return bathers;
        }

        int outOf(int b) {
            return out[b];
        }

        int stateOf(int b) {
            return state[b];
        }

        int changeOf(int b) {
            return changedAt[b];
        }

        int countIn(int wanted) {
            int n = 0;
            for (int b = 0; b < bathers; b++) {
                n += state[b] == wanted ? 1 : 0;
            }
            return n;
        }

        int minutesLeft() {
            return MOST_MINUTES - minute;
        }

        int pass(int n) {
            for (int i = 0; i < n; i++) {
                saveReached();
                carryOut();
                seeTroubled();
                sendGuards();
                loseLate();
                minute++;
            }
            return minute;
        }

        private boolean isInWater(int b) {
            return state[b] != SAVED && state[b] != LOST;
        }

        private void become(int b, int to) {
            state[b] = to;
            changedAt[b] = minute;
        }

        private void saveReached() {
            for (int b = 0; b < bathers; b++) {
                if (state[b] == GONE_FOR && reached[b] == minute) {
                    become(b, SAVED);
                }
            }
        }

        private void carryOut() {
            for (int b = 0; b < bathers; b++) {
                if (isInWater(b)) {
                    if (rip[cell[b]]) {
                        out[b] = Math.min(MOST_OUT, out[b] + 2);
                    } else if (out[b] > 0 && state[b] == WELL) {
                        out[b]--;
                    }
                    if (state[b] == WELL && out[b] >= TROUBLE_OUT) {
                        become(b, IN_TROUBLE);
                        troubled[b] = minute;
                    }
                }
            }
        }

        private void seeTroubled() {
            if (sweep < 1) {
                return;
            }
            int turn = minute % sweep;
            int from = turn * CELLS / sweep;
            int to = (turn + 1) * CELLS / sweep;
            for (int b = 0; b < bathers; b++) {
                if (state[b] == IN_TROUBLE && cell[b] >= from && cell[b] < to) {
                    become(b, SEEN);
                }
            }
        }

        private void sendGuards() {
            for (int b = 0; b < bathers; b++) {
                if (state[b] == SEEN) {
                    int guard = freeGuard();
                    if (guard >= 0) {
                        int way = wayTo(b);
                        become(b, GONE_FOR);
                        reached[b] = minute + way;
                        freeFrom[guard] = minute + 2 * way;
                    }
                }
            }
        }

        private int freeGuard() {
            for (int guard = 0; guard < guards; guard++) {
                if (freeFrom[guard] <= minute) {
                    return guard;
                }
            }
            return NONE;
        }

        private int wayTo(int b) {
            int along = (Math.abs(cell[b] - TOWER) + 1) / 2;
            int outward = (out[b] + 2) / 3;
            return Math.max(1, outward + along);
        }

        private void loseLate() {
            for (int b = 0; b < bathers; b++) {
                if (isInWater(b) && state[b] != WELL && troubled[b] <= minute - longTime) {
                    become(b, LOST);
                }
            }
        }
    }

    /** One lost at sea: whole parts in a row of places, of which each place's chance is its share. */
    private static final class Search {
        static final int PLACES = 32;
        static final int MOST_PARTS = 1000000;
        static final int DRIFT_WHOLE = 4;
        static final int EIGHTHS = 8;
        static final int MOST_LOOKS = 3;
        private static final int MOST_MADE = 10;
        private static final int BOAT_REACH = 3;
        private static final int MILLIONTH_DIGITS = 6;
        /** A look and a drift make all parts this many times as many. */
        private static final int MINUTE_TIMES = EIGHTHS * DRIFT_WHOLE;

        private final int[] told = new int[PLACES];
        private final long[] parts = new long[PLACES];
        private final long[] looked = new long[PLACES];
        /** The parts ahead of each look of a seeking. */
        private final long[][] ahead = new long[MOST_LOOKS][PLACES];
        private final int[] trial = new int[MOST_LOOKS];
        private final int[] best = new int[MOST_LOOKS];
        private long bestFound;
        private int left;
        private int stay = DRIFT_WHOLE;
        private int right;
        private int made;
        private int boatPlace;

        int putParts(int place, int v) {
            int was = told[place];
            if (made > 0) {
                Arrays.fill(told, 0);
                Arrays.fill(parts, 0L);
                made = 0;
            }
            told[place] = v;
            parts[place] = v;
            return was;
        }

        int putDrift(int l, int s, int r) {
            left = l;
            stay = s;
            right = r;
            return 1;
        }

        int putBoat(int place) {
            int was = boatPlace;
            boatPlace = place;
            return was;
        }

        int madeCount() {
            return made;
        }

        long partsAt(int place) {
            return parts[place];
        }

        long total() {
            long sum = 0;
            for (int place = 0; place < PLACES; place++) {
                sum += parts[place];
            }
            return sum;
        }

        /** Why so many minutes and looks more can't be made. */
        int faultOf(int more) {
            if (total() == 0) {
                return MISSING;
            }
            return made + more > MOST_MADE ? ROOM : FINE;
        }

        int passMinute() {
            System.arraycopy(parts, 0, looked, 0, PLACES);
            carry(parts);
            made++;
            return made;
        }

        int lookAt(int place, int q) {
            lookThrough(parts, place, q);
            System.arraycopy(looked, 0, parts, 0, PLACES);
            made++;
            return made;
        }

        private void lookThrough(long[] from, int place, int q) {
            for (int p = 0; p < PLACES; p++) {
                looked[p] = from[p] * (p == place ? EIGHTHS - q : EIGHTHS);
            }
        }

        /** A minute's drift of what is looked through. */
        private void carry(long[] to) {
            for (int p = 0; p < PLACES; p++) {
                long fromLeft = p > 0 ? right * looked[p - 1] : left * looked[p];
                long fromRight = p < PLACES - 1 ? left * looked[p + 1] : right * looked[p];
                to[p] = fromLeft + stay * looked[p] + fromRight;
            }
        }

        void findBestLooks(int m, int q) {
            bestFound = -1;
            System.arraycopy(parts, 0, ahead[0], 0, PLACES);
            tryLooks(0, m, q, boatPlace, 0L);
        }

        /** Rows come by places, the least first, so that only a greater chance takes the first one's stead. */
        private void tryLooks(int step, int m, int q, int from, long found) {
            if (step >= m || step >= MOST_LOOKS) {
                if (found > bestFound) {
                    bestFound = found;
                    System.arraycopy(trial, 0, best, 0, MOST_LOOKS);
                }
                return;
            }
            int last = Math.min(PLACES - 1, from + BOAT_REACH);
            for (int place = Math.max(0, from - BOAT_REACH); place <= last; place++) {
                trial[step] = place;
                if (step + 1 < m && step + 1 < MOST_LOOKS) {
                    lookThrough(ahead[step], place, q);
                    carry(ahead[step + 1]);
                }
                tryLooks(step + 1, m, q, place, found * MINUTE_TIMES + q * ahead[step][place]);
            }
        }

        int bestPlace(int i) {
            return best[i];
        }

        /** Digit by digit, as the whole product would not fit a long. */
        int bestMillionths(int m) {
            long whole = EIGHTHS * total();
            for (int step = 1; step < m; step++) {
                whole *= MINUTE_TIMES;
            }
            if (whole <= 0) {
                return 0;
            }
            long rest = bestFound % whole;
            long answer = bestFound / whole;
            for (int digit = 0; digit < MILLIONTH_DIGITS; digit++) {
                rest *= 10;
                answer = answer * 10 + rest / whole;
                rest %= whole;
            }
            return (int) answer;
        }
    }

    /** Lost children joined to found ones. */
    private static final class Children {
        static final int MOST_MARKS = 99999;
        private static final int DIGITS = 5;
        private static final int MOST = 8;
        private static final int SETS = 256;
        private static final int MOST_UNLIKE = 2;
        /** More than all unlike digits of all joined ones together. */
        private static final int JOIN_WORTH = 64;

        private final int[] lostMarks = new int[MOST];
        private final int[] foundMarks = new int[MOST];
        /** By lost child and set of found ones that are taken: the most worth of it and all behind. */
        private final int[][] worth = new int[MOST + 1][SETS];
        private final int[] foundBy = new int[MOST];
        private int losts;
        private int founds;
        private int joinCount;
        private int unlikeSum;
        private boolean known = true;

        int size(boolean found) {
            return found ? founds : losts;
        }

        boolean isFull(boolean found) {
            return size(found) >= MOST;
        }

        int add(boolean found, int marks) {
            known = false;
            if (found) {
                foundMarks[founds] = marks;
                founds++;
                return founds - 1;
            }
            lostMarks[losts] = marks;
            losts++;
            return losts - 1;
        }

        boolean isLost(int lost) {
            return lost >= 0 && lost < losts;
        }

        int joinCount() {
            join();
            return joinCount;
        }

        int unlikeTogether() {
            join();
            return unlikeSum;
        }

        int foundOf(int lost) {
            join();
            return foundBy[lost];
        }

        boolean isSure(int lost) {
            join();
            int found = foundBy[lost];
            if (found == NONE) {
                return false;
            }
            int own = unlike(lost, found);
            for (int other = 0; other < founds; other++) {
                if (other != found && unlike(lost, other) <= own) {
                    return false;
                }
            }
            for (int other = 0; other < losts; other++) {
                if (other != lost && unlike(other, found) <= own) {
                    return false;
                }
            }
            return true;
        }

        private int unlike(int lost, int found) {
            int a = lostMarks[lost];
            int b = foundMarks[found];
            int n = 0;
            for (int digit = 0; digit < DIGITS; digit++) {
                n += a % 10 != b % 10 ? 1 : 0;
                a /= 10;
                b /= 10;
            }
            return n;
        }

        private void join() {
            if (known) {
                return;
            }
            int sets = 1 << founds;
            Arrays.fill(worth[losts], 0);
            for (int lost = losts - 1; lost >= 0; lost--) {
                System.arraycopy(worth[lost + 1], 0, worth[lost], 0, sets);
                for (int found = 0; found < founds; found++) {
                    weighJoin(lost, found, sets);
                }
            }
            choose();
            known = true;
        }

        private void weighJoin(int lost, int found, int sets) {
            int own = unlike(lost, found);
            if (own > MOST_UNLIKE) {
                return;
            }
            int bit = 1 << found;
            for (int taken = 0; taken < sets; taken++) {
                if ((taken & bit) == 0) {
                    int all = JOIN_WORTH - own + worth[lost + 1][taken | bit];
                    worth[lost][taken] = Math.max(worth[lost][taken], all);
                }
            }
        }

        private void choose() {
            int taken = 0;
            joinCount = 0;
            unlikeSum = 0;
            for (int lost = 0; lost < losts; lost++) {
                int found = leastFound(lost, taken);
                foundBy[lost] = found;
                if (found != NONE) {
                    taken |= 1 << found;
                    joinCount++;
                    unlikeSum += unlike(lost, found);
                }
            }
        }

        private int leastFound(int lost, int taken) {
            for (int found = 0; found < founds; found++) {
                int bit = 1 << found;
                int own = unlike(lost, found);
                if ((taken & bit) == 0 && own <= MOST_UNLIKE
                        && JOIN_WORTH - own + worth[lost + 1][taken | bit] == worth[lost][taken]) {
                    return found;
                }
            }
            return NONE;
        }
    }

    /** Reports joined to rescues; a rescue is known by its least report. */
    private static final class Reports {
        static final int LAST_MINUTE = 959;
        private static final int MOST = 40;
        private static final int NEAR_MINUTES = 5;
        private static final int NEAR_CELLS = 3;

        private final int[] beachOf = new int[MOST];
        private final int[] minuteOf = new int[MOST];
        private final int[] cellOf = new int[MOST];
        private final int[] rescueOf = new int[MOST];
        /** Of a rescue, at its least report: its first minute. */
        private final int[] firstMinute = new int[MOST];
        private int size;

        int size() {
            return size;
        }

        boolean isFull() {
            return size >= MOST;
        }

        int add(int beach, int minute, int cell) {
            int number = size;
            beachOf[number] = beach;
            minuteOf[number] = minute;
            cellOf[number] = cell;
            rescueOf[number] = number;
            firstMinute[number] = minute;
            size++;
            for (int other = 0; other < number; other++) {
                if (isNear(other, number)) {
                    unite(rescueOf[other], rescueOf[number]);
                }
            }
            return number;
        }

        private boolean isNear(int one, int other) {
            return beachOf[one] == beachOf[other]
                    && Math.abs(minuteOf[one] - minuteOf[other]) <= NEAR_MINUTES
                    && Math.abs(cellOf[one] - cellOf[other]) <= NEAR_CELLS;
        }

        private void unite(int one, int other) {
            int kept = Math.min(one, other);
            int gone = Math.max(one, other);
            firstMinute[kept] = Math.min(firstMinute[kept], firstMinute[gone]);
            for (int r = 0; r < size; r++) {
                if (rescueOf[r] == gone) {
                    rescueOf[r] = kept;
                }
            }
        }

        private boolean isRescue(int r, int beach) {
            return beachOf[r] == beach && rescueOf[r] == r;
        }

        int rescueCount(int beach) {
            int n = 0;
            for (int r = 0; r < size; r++) {
                n += isRescue(r, beach) ? 1 : 0;
            }
            return n;
        }

        int firstMinuteOf(int beach, int i) {
            for (int r = 0; r < size; r++) {
                if (isRescue(r, beach) && rescuesAhead(r, beach) == i) {
                    return firstMinute[r];
                }
            }
            return NONE;
        }

        private int rescuesAhead(int rescue, int beach) {
            int n = 0;
            for (int r = 0; r < size; r++) {
                boolean earlier = firstMinute[r] < firstMinute[rescue]
                        || firstMinute[r] == firstMinute[rescue] && r < rescue;
                n += earlier && isRescue(r, beach) ? 1 : 0;
            }
            return n;
        }
    }

    /** Tables of rules, in force from a day on. */
    private static final class RuleBook {
        static final int MOST_COLOUR = 4;
        private static final int MOST = 20;

        private final int[] from = new int[MOST];
        private final int[] swellFrom = new int[MOST];
        private final int[] headsFrom = new int[MOST];
        private final int[] jelliesFrom = new int[MOST];
        private final int[] colourOf = new int[MOST];
        private int size;

        int size() {
            return size;
        }

        boolean isFull() {
            return size >= MOST;
        }

        int add(int day, int swell, int heads, int jellies, int colour) {
            int number = size;
            from[number] = day;
            swellFrom[number] = swell;
            headsFrom[number] = heads;
            jelliesFrom[number] = jellies;
            colourOf[number] = colour;
            size++;
            return number;
        }

        int greatestColour(int day, int swell, int heads, int jellies) {
            int greatest = 0;
            for (int r = 0; r < size; r++) {
                boolean met = from[r] <= day && swell >= swellFrom[r]
                        && heads >= headsFrom[r] && jellies >= jelliesFrom[r];
                if (met && colourOf[r] > greatest) {
                    greatest = colourOf[r];
                }
            }
            return greatest;
        }
    }

    /** Heads counted in drawn cells. */
    private static final class HeadCount {
        static final int UNDRAWN = -1;
        static final int MOST_HEADS = 30;

        private final int[][] headsIn = new int[BEACHES][CELLS];

        HeadCount() {
            for (int beach = 0; beach < BEACHES; beach++) {
                Arrays.fill(headsIn[beach], UNDRAWN);
            }
        }

        int put(int beach, int cell, int heads) {
            headsIn[beach][cell] = heads;
            return drawnCells(beach);
        }

        int drawnCells(int beach) {
            int n = 0;
            for (int cell = 0; cell < CELLS; cell++) {
                n += headsIn[beach][cell] != UNDRAWN ? 1 : 0;
            }
            return n;
        }

        int sum(int beach) {
            int sum = 0;
            for (int cell = 0; cell < CELLS; cell++) {
                sum += Math.max(0, headsIn[beach][cell]);
            }
            return sum;
        }
    }
}
