import java.util.Arrays;

/** Maps on flat bread: what each call must answer stands in DOC.md, as numbered promises. */
public final class BreadMap {
    public static final int NONE = -1;

    private static final int FINE = 0;
    private static final int NO_TRAY = 1;
    private static final int NOWHERE = 2;
    private static final int TRAY_MISSING = 3;
    private static final int TOO_SHORT = 4;
    private static final int BAD_NUMBER = 5;
    private static final int BELOW_ZERO = 6;
    private static final int ONE_TOO_MANY = 7;
    private static final int THERE_IS_NONE = 8;
    private static final int CANNOT_BE = 9;
    private static final int FAULTY = 10;
    private static final int UNLIKE_SORTS = 11;

    private static final int TRAYS = 4;
    private static final int TOLD_NUMBERS = 5;
    private static final int MOST_MARKS = 3;
    private static final int MOST_NIGHTS = 12;
    private static final int MEAN_NIGHTS = 8;
    private static final int LAST_SEED = 9999;
    private static final int MOST_SEEDS = 20;
    private static final int RAN_ANSWERS = 4;
    /** In the order in which HALVES prefers them. */
    private static final int[] MOVES = {0, -1, 1, -2, 2};
    private static final long MOST_WAYS_TOLD = 999_999_999_999L;

    private int status;
    private long top;
    private long bottom;
    private final Tray[] trays;
    private final Tape tape;
    private final LandReader landReader;
    private final OrdersReader ordersReader;
    private Land land;
    /** A LAND is read here, and runs that leave no trace are done here. */
    private Land spare;
    private final Land[] marks;
    private int marked;
    private final Ways ways;
    private final Eater eater;
    private final Cutter cutter;
    private final Mouse mouse;
    private final Runner runner;
    /** The CELLS of the WAY by way() latest; a copy, since other calls look for WAYS too. */
    private final int[] shownWay;
    private int shownCells;
    /** NONE ahead of the first march(). */
    private int stuckLatest;
    /** What ran() tells; NONE in the first place ahead of the first run(). */
    private final int[] ranLatest;

    public BreadMap() {
        status = FINE;
        top = 0;
        bottom = 1;
        trays = new Tray[TRAYS];
        for (int i = 0; i < TRAYS; i++) {
            trays[i] = new Tray();
        }
        tape = new Tape();
        landReader = new LandReader(tape);
        ordersReader = new OrdersReader(tape);
        land = new Land();
        land.becomePlains(2, 1);
        spare = new Land();
        marks = new Land[MOST_MARKS];
        for (int i = 0; i < MOST_MARKS; i++) {
            marks[i] = new Land();
        }
        marked = 0;
        ways = new Ways();
        eater = new Eater(ways);
        cutter = new Cutter();
        mouse = new Mouse();
        runner = new Runner(ways);
        shownWay = new int[Land.CELLS];
        shownCells = 0;
        stuckLatest = NONE;
        ranLatest = new int[RAN_ANSWERS];
        Arrays.fill(ranLatest, NONE);
    }

    public int status() {
        return status;
    }

    public long top() {
        return top;
    }

    public long bottom() {
        return bottom;
    }

    // ---- TRAYS

    public boolean tray(int tray, int sort, int many) {
        if (!isTray(tray) || !Tray.isSort(sort)) {
            return refuse(NO_TRAY);
        }
        if (many > Tray.LONGEST) {
            return refuse(BAD_NUMBER);
        }
        if (many < 0) {
            return refuse(BELOW_ZERO);
        }
        trays[tray].becomeZeros(sort, many);
        return accept();
    }

    public boolean write(int tray, int place, long v) {
        int wrong = placeStatus(tray, place);
        if (wrong != FINE) {
            return refuse(wrong);
        }
        Tray row = trays[tray];
        row.numbers[place] = row.cutToSort(v);
        return accept();
    }

    public long read(int tray, int place) {
        int wrong = placeStatus(tray, place);
        if (wrong != FINE) {
            return refused(wrong);
        }
        status = FINE;
        return trays[tray].numbers[place];
    }

    public boolean pour(int tray, int i, int to, int j, int many) {
        if (!isTray(tray) || !isTray(to)) {
            return refuse(NO_TRAY);
        }
        Tray from = trays[tray];
        Tray into = trays[to];
        if (from.isMissing() || into.isMissing()) {
            return refuse(TRAY_MISSING);
        }
        if (from.sort != into.sort) {
            return refuse(UNLIKE_SORTS);
        }
        if (many < 0) {
            return refuse(BELOW_ZERO);
        }
        if (!from.hasPlaces(i, many) || !into.hasPlaces(j, many)) {
            return refuse(TOO_SHORT);
        }
        System.arraycopy(from.numbers, i, into.numbers, j, many);
        return accept();
    }

    // ---- texts

    public int feed(int a, int b, int c, int d, int e) {
        if (!tape.hasRoom()) {
            return NONE;
        }
        tape.append(a);
        tape.append(b);
        tape.append(c);
        tape.append(d);
        tape.append(e);
        return tape.length;
    }

    public int land(int n) {
        if (n < 0 || n > tape.length) {
            return refused(BAD_NUMBER);
        }
        boolean taken = landReader.readText(spare, n);
        tape.finishText();
        if (!taken) {
            return refused(FAULTY);
        }
        Land old = land;
        land = spare;
        spare = old;
        return answer(land.companies);
    }

    public int orders(int n) {
        if (n < 0 || n > tape.length || n > Orders.LONGEST_TEXT) {
            return refused(BAD_NUMBER);
        }
        boolean taken = ordersReader.readText(land, n);
        tape.finishText();
        if (!taken) {
            return refused(FAULTY);
        }
        land.orders.becomeLike(ordersReader.orders);
        return answer(land.orders.steps);
    }

    public int fault(int what) {
        switch (what) {
            case 0:
                return tape.toldFault;
            case 1:
                return tape.toldPlace;
            default:
                return NONE;
        }
    }

    public int many(int what) {
        switch (what) {
            case 0:
                return answer(land.wide);
            case 1:
                return answer(land.rows);
            case 2:
                return answer(land.copies);
            case 3:
                return answer(land.companies);
            case 4:
                return answer(land.eaten);
            case 5:
                return answer(land.crumbsLeft());
            default:
                return refused(BAD_NUMBER);
        }
    }

    public int ground(int x, int y, int what) {
        if (!land.hasCell(x, y)) {
            return refused(NOWHERE);
        }
        int cell = Land.cellAt(x, y);
        switch (what) {
            case 0:
                return answer(land.letter[cell]);
            case 1:
                return land.isWater(cell) ? refused(THERE_IS_NONE) : answer(land.groundCost(cell));
            case 2:
                return answer(land.rise[cell]);
            case 3:
                return answer(land.crumbsOf(cell));
            default:
                return refused(BAD_NUMBER);
        }
    }

    public int cell(int copy, int x, int y) {
        if (!land.hasCopyCell(copy, x, y)) {
            return refused(NOWHERE);
        }
        return answer(land.stateOf(copy, Land.cellAt(x, y)));
    }

    public int shows(int copy, int x, int y) {
        if (!land.hasCopyCell(copy, x, y)) {
            return refused(NOWHERE);
        }
        return answer(land.shownKind(copy, Land.cellAt(x, y)));
    }

    public int company(int company, int what) {
        if (!land.hasCompany(company)) {
            return refused(NOWHERE);
        }
        switch (what) {
            case 0:
                return answer(Land.xOf(land.at[company]));
            case 1:
                return answer(Land.yOf(land.at[company]));
            case 2:
                return answer(Land.xOf(land.goal[company]));
            case 3:
                return answer(Land.yOf(land.goal[company]));
            case 4:
                return answer(land.by[company]);
            case 5:
                return answer(land.spent[company]);
            default:
                return refused(BAD_NUMBER);
        }
    }

    // ---- bread

    public int bite(int copy, int x, int y) {
        if (!land.hasCopyCell(copy, x, y)) {
            return refused(NOWHERE);
        }
        int cell = Land.cellAt(x, y);
        if (!land.eat(copy, cell)) {
            return refused(CANNOT_BE);
        }
        return answer(land.crumbsOf(cell));
    }

    public boolean mould(int copy, int x, int y) {
        if (!land.hasCopyCell(copy, x, y)) {
            return refuse(NOWHERE);
        }
        return land.growMould(copy, Land.cellAt(x, y)) ? accept() : refuse(CANNOT_BE);
    }

    public boolean honey(int copy, int x, int y) {
        if (!land.hasCopyCell(copy, x, y)) {
            return refuse(NOWHERE);
        }
        return land.spreadHoney(copy, Land.cellAt(x, y)) ? accept() : refuse(CANNOT_BE);
    }

    public boolean clean(int copy, int x, int y) {
        if (!land.hasCopyCell(copy, x, y)) {
            return refuse(NOWHERE);
        }
        return land.wipe(copy, Land.cellAt(x, y)) ? accept() : refuse(CANNOT_BE);
    }

    public int steam(int copy, int to) {
        if (!land.hasCopy(copy) || !land.hasCopy(to)) {
            return refused(NOWHERE);
        }
        if (copy == to) {
            return refused(BAD_NUMBER);
        }
        int changed = land.differences(copy, to);
        land.steamOff(copy, to);
        return answer(changed);
    }

    public int unlike(int a, int b) {
        if (!land.hasCopy(a) || !land.hasCopy(b)) {
            return refused(NOWHERE);
        }
        return answer(land.differences(a, b));
    }

    public int count(int copy, int how) {
        if (!land.hasCopy(copy)) {
            return refused(NOWHERE);
        }
        if (how < Land.WHOLE || how > Land.HONEYED) {
            return refused(BAD_NUMBER);
        }
        return answer(Long.bitCount(land.cellsThatAre(copy, how)));
    }

    public int hole(int copy) {
        if (!land.hasCopy(copy)) {
            return refused(NOWHERE);
        }
        return answer(land.largestHeap(land.cellsThatAre(copy, Land.BITTEN)));
    }

    // ---- marches

    public int way(int company) {
        if (!land.hasCompany(company)) {
            return refused(NOWHERE);
        }
        int cost = ways.findWay(land, company);
        if (cost == NONE) {
            return refused(CANNOT_BE);
        }
        shownCells = ways.steps + 1;
        System.arraycopy(ways.path, 0, shownWay, 0, shownCells);
        return answer(cost);
    }

    public int wayAt(int k, int what) {
        if (what != 0 && what != 1) {
            return refused(BAD_NUMBER);
        }
        if (k < 0 || k >= shownCells) {
            return refused(THERE_IS_NONE);
        }
        return answer(what == 0 ? Land.xOf(shownWay[k]) : Land.yOf(shownWay[k]));
    }

    public int march(int company) {
        if (!land.hasCompany(company)) {
            return refused(NOWHERE);
        }
        if (ways.findWay(land, company) == NONE) {
            return refused(CANNOT_BE);
        }
        int went = ways.lead(land, company);
        stuckLatest = went < ways.steps ? 1 : 0;
        return answer(went);
    }

    public int stuck() {
        if (stuckLatest == NONE) {
            return refused(THERE_IS_NONE);
        }
        return answer(stuckLatest);
    }

    public int truly(int company) {
        if (!land.hasCompany(company)) {
            return refused(NOWHERE);
        }
        if (ways.findWay(land, company) == NONE) {
            return refused(CANNOT_BE);
        }
        int cost = ways.trueCost(land);
        return cost == NONE ? refused(CANNOT_BE) : answer(cost);
    }

    public int best(int company) {
        if (!land.hasCompany(company)) {
            return refused(NOWHERE);
        }
        ways.lookAtGround(land);
        int cost = ways.measure(land, land.at[company], land.goal[company]);
        return cost == NONE ? refused(CANNOT_BE) : answer(cost);
    }

    public boolean hand(int company, int copy) {
        if (!land.hasCompany(company) || !land.hasCopy(copy)) {
            return refuse(NOWHERE);
        }
        land.by[company] = copy;
        return accept();
    }

    public int reach() {
        int set = 0;
        for (int i = 0; i < land.companies; i++) {
            if (ways.findWay(land, i) != NONE) {
                set |= 1 << i;
            }
        }
        return answer(set);
    }

    public int seen(int company, int copy) {
        if (!land.hasCompany(company) || !land.hasCopy(copy)) {
            return refused(NOWHERE);
        }
        if (ways.findWay(land, company) == NONE) {
            return refused(CANNOT_BE);
        }
        long walked = ways.entered | 1L << land.at[company];
        return answer(Long.bitCount(walked & land.cellsThatAre(copy, Land.HONEYED)));
    }

    // ---- what to eat

    public int supper(int copy, int cells, int what) {
        if (!land.hasCopy(copy)) {
            return refused(NOWHERE);
        }
        if (cells < 1 || cells > 2 || what < 0 || what > 3) {
            return refused(BAD_NUMBER);
        }
        if (cells == 1 && what == 3) {
            return refused(THERE_IS_NONE);
        }
        eater.sitDown(land, copy);
        if (!eater.choose(cells)) {
            return refused(CANNOT_BE);
        }
        switch (what) {
            case 0:
                return answer(eater.mostLeft);
            case 1:
                return answer(eater.leastCost);
            case 2:
                return answer(land.numberOf(eater.first));
            default:
                return answer(land.numberOf(eater.second));
        }
    }

    public int cut(int company) {
        if (!land.hasCompany(company)) {
            return refused(NOWHERE);
        }
        if (ways.findWay(land, company) == NONE || ways.steps < 2) {
            return refused(CANNOT_BE);
        }
        return answer(cutter.fewest(land, ways.cost, land.at[company], land.goal[company]));
    }

    public int worth(int copy, int x, int y) {
        if (!land.hasCopyCell(copy, x, y)) {
            return refused(NOWHERE);
        }
        int cell = Land.cellAt(x, y);
        if (land.stateOf(copy, cell) == Land.BITTEN) {
            return refused(CANNOT_BE);
        }
        eater.sitDown(land, copy);
        return answer(eater.lossBy(cell));
    }

    public int mostWorth(int copy, int what) {
        if (!land.hasCopy(copy)) {
            return refused(NOWHERE);
        }
        if (what != 0 && what != 1) {
            return refused(BAD_NUMBER);
        }
        eater.sitDown(land, copy);
        int cell = eater.dearestCell();
        if (cell == NONE) {
            return refused(THERE_IS_NONE);
        }
        return answer(what == 0 ? land.numberOf(cell) : eater.lossBy(cell));
    }

    // ---- crumbs, halves, mice

    public long told(int copy, int tray) {
        if (!isTray(tray)) {
            return refused(NO_TRAY);
        }
        if (!land.hasCopy(copy)) {
            return refused(NOWHERE);
        }
        Tray row = trays[tray];
        if (row.isMissing()) {
            return refused(TRAY_MISSING);
        }
        if (row.length < TOLD_NUMBERS) {
            return refused(TOO_SHORT);
        }
        long sum = 0;
        for (int i = 0; i < TOLD_NUMBERS; i++) {
            if (row.numbers[i] < 0 || row.numbers[i] > Land.CELLS) {
                return refused(BAD_NUMBER);
            }
            sum += row.numbers[i];
        }
        status = FINE;
        return sum == Long.bitCount(land.cellsThatAre(copy, Land.BITTEN)) ? waysToLay(row.numbers) : 0;
    }

    public int halves(int a, int b, int what) {
        if (!land.hasCopy(a) || !land.hasCopy(b)) {
            return refused(NOWHERE);
        }
        if (what != 0 && what != 1) {
            return refused(BAD_NUMBER);
        }
        int bestMove = 0;
        int bestFit = NONE;
        for (int i = 0; i < MOVES.length; i++) {
            int fit = land.fitting(a, b, MOVES[i]);
            if (fit > bestFit) {
                bestFit = fit;
                bestMove = MOVES[i];
            }
        }
        return answer(what == 0 ? bestFit : bestMove);
    }

    public boolean odds(int x, int y, int cellX, int cellY, int nights) {
        if (!land.hasCell(x, y) || !land.hasCell(cellX, cellY)) {
            return refuse(NOWHERE);
        }
        if (nights < 0 || nights > MOST_NIGHTS) {
            return refuse(BAD_NUMBER);
        }
        long eating = mouse.walksThrough(land, Land.cellAt(x, y), Land.cellAt(cellX, cellY), nights);
        tellFraction(eating, Mouse.allWalks(nights));
        return accept();
    }

    public boolean mean(int x, int y, int nights) {
        if (!land.hasCell(x, y)) {
            return refuse(NOWHERE);
        }
        if (nights < 0 || nights > MEAN_NIGHTS) {
            return refuse(BAD_NUMBER);
        }
        tellFraction(mouse.cellsOnAllWalks(land, Land.cellAt(x, y), nights), Mouse.allWalks(nights));
        return accept();
    }

    // ---- ORDERS

    public int run(int seed) {
        if (seed < 0 || seed > LAST_SEED) {
            return refused(BAD_NUMBER);
        }
        if (!land.orders.areThere()) {
            return refused(THERE_IS_NONE);
        }
        int done = runner.carryOut(land, seed);
        ranLatest[0] = runner.missed;
        ranLatest[1] = runner.bitten;
        ranLatest[2] = runner.stuckMarches;
        ranLatest[3] = runner.stepLeft ? 1 : 0;
        return answer(done);
    }

    public int ran(int what) {
        if (what < 0 || what >= RAN_ANSWERS) {
            return refused(BAD_NUMBER);
        }
        if (ranLatest[0] == NONE) {
            return refused(THERE_IS_NONE);
        }
        return answer(ranLatest[what]);
    }

    public boolean arrivals(int company, int seed, int many) {
        if (!land.hasCompany(company)) {
            return refuse(NOWHERE);
        }
        if (seed < 0 || many < 1 || many > MOST_SEEDS || seed > LAST_SEED - many + 1) {
            return refuse(BAD_NUMBER);
        }
        if (!land.orders.areThere()) {
            return refuse(THERE_IS_NONE);
        }
        int arrived = 0;
        for (int i = 0; i < many; i++) {
            spare.becomeLike(land);
            runner.carryOut(spare, seed + i);
            if (spare.hasArrived(company)) {
                arrived++;
            }
        }
        tellFraction(arrived, many);
        return accept();
    }

    // ---- MARKS

    public int mark() {
        if (marked >= MOST_MARKS) {
            return refused(ONE_TOO_MANY);
        }
        marks[marked].becomeLike(land);
        marked++;
        return answer(marked);
    }

    public int back() {
        if (marked <= 0) {
            return refused(THERE_IS_NONE);
        }
        marked--;
        land.becomeLike(marks[marked]);
        return answer(marked);
    }

    // ---- what several calls share

    private int answer(int value) {
        status = FINE;
        return value;
    }

    private boolean accept() {
        status = FINE;
        return true;
    }

    private int refused(int why) {
        status = why;
        return NONE;
    }

    private boolean refuse(int why) {
        status = why;
        return false;
    }

    private static boolean isTray(int tray) {
        return tray >= 0 && tray < TRAYS;
    }

    private int placeStatus(int tray, int place) {
        if (!isTray(tray)) {
            return NO_TRAY;
        }
        if (trays[tray].isMissing()) {
            return TRAY_MISSING;
        }
        return trays[tray].hasPlaces(place, 1) ? FINE : TOO_SHORT;
    }

    private void tellFraction(long over, long under) {
        long divisor = commonDivisor(over, under);
        if (divisor > 0) {
            top = over / divisor;
            bottom = under / divisor;
        }
    }

    private static long commonDivisor(long a, long b) {
        long large = a;
        long small = b;
        // Euclid's way takes fewer than 100 turns for any two longs.
        for (int turn = 0; turn < 100 && small != 0; turn++) {
            long rest = large % small;
            large = small;
            small = rest;
        }
        return large;
    }

    /** In how many orders so many things of each sort can lie in a row, cut at the document's most. */
    private static long waysToLay(long[] numbers) {
        long laid = 1;
        int places = 0;
        for (int sort = 0; sort < TOLD_NUMBERS && sort < numbers.length; sort++) {
            long many = Math.min(numbers[sort], Land.CELLS);
            for (int i = 1; i <= many; i++) {
                places++;
                // A whole number each time, and never less than ahead: so it may be cut at once.
                laid = laid * places / i;
                if (laid > MOST_WAYS_TOLD) {
                    return MOST_WAYS_TOLD;
                }
            }
        }
        return laid;
    }

    /** A row of numbers of one sort; its room is made once for the longest. */
    private static final class Tray {
        static final int LONGEST = 60;

        final long[] numbers = new long[LONGEST];
        int sort = NONE;
        int length;

        static boolean isSort(int sort) {
            return sort >= 0 && sort <= 3;
        }

        boolean isMissing() {
            return sort == NONE;
        }

        void becomeZeros(int newSort, int many) {
            sort = newSort;
            length = many;
            Arrays.fill(numbers, 0L);
        }

        boolean hasPlaces(int place, int many) {
            return place >= 0 && place <= length - many;
        }

        long cutToSort(long v) {
            switch (sort) {
                case 0:
                    return (byte) v;
                case 1:
                    return (short) v;
                case 2:
                    return (int) v;
                default:
                    return v;
            }
        }
    }

    /** The bytes that were fed, and the TOKENS of a TEXT at their beginning, gone through one by one. */
    private static final class Tape {
        static final int LONGEST = 900;
        static final int PER_FEED = 20;
        static final int LONGEST_NAME = 8;
        static final int LONGEST_NUMBER = 4;

        static final int THE_END = 0;
        static final int WORD = 1;
        static final int NUMBER = 2;
        static final int SIGN = 3;
        static final int UNKNOWN = 4;

        static final int FAULT_UNKNOWN = 1;
        static final int FAULT_PLACE = 2;
        static final int FAULT_NAME = 3;
        static final int FAULT_NUMBER = 4;
        static final int FAULT_TWICE = 5;
        static final int FAULT_TOO_MANY = 6;
        static final int FAULT_TOO_DEEP = 7;

        /** A WORD's index is its place in this row; each has a blank behind it. */
        static final String RESERVED =
            "wide row rise by copies company at to bite mould honey steam mouse march home when eaten arrives crumbs loop end stop ";
        static final int WIDE = 0;
        static final int ROW = 1;
        static final int RISE = 2;
        static final int BY = 3;
        static final int COPIES = 4;
        static final int COMPANY = 5;
        static final int AT = 6;
        static final int TO = 7;
        static final int BITE = 8;
        static final int MOULD = 9;
        static final int HONEY = 10;
        static final int STEAM = 11;
        static final int MOUSE = 12;
        static final int MARCH = 13;
        static final int HOME = 14;
        static final int WHEN = 15;
        static final int EATEN = 16;
        static final int ARRIVES = 17;
        static final int CRUMBS = 18;
        static final int LOOP = 19;
        static final int END = 20;
        static final int STOP = 21;

        private final byte[] bytes = new byte[LONGEST];
        int length;
        /** By TOKEN; the last one is THE_END, or UNKNOWN, behind which nothing is looked at. */
        private final int[] kinds = new int[LONGEST + 1];
        private final int[] starts = new int[LONGEST + 1];
        private final int[] ends = new int[LONGEST + 1];
        /** A NUMBER's value, a SIGN's byte, a reserved WORD's index, else NONE. */
        private final int[] values = new int[LONGEST + 1];
        private int at;
        private int fault;
        private int place;
        int toldFault = NONE;
        int toldPlace = NONE;

        boolean hasRoom() {
            return length + PER_FEED <= LONGEST;
        }

        void append(int fourBytes) {
            for (int shift = 24; shift >= 0; shift -= 8) {
                if (length < LONGEST) {
                    bytes[length] = (byte) (fourBytes >> shift);
                    length++;
                }
            }
        }

        /** Cuts the first n bytes into TOKENS and stands at the first of them. */
        void beginText(int n) {
            int textEnd = Math.max(0, Math.min(n, length));
            at = 0;
            fault = 0;
            place = NONE;
            int from = 0;
            for (int token = 0; token <= LONGEST; token++) {
                scanToken(token, from, textEnd);
                from = ends[token];
                if (kinds[token] == THE_END || kinds[token] == UNKNOWN) {
                    return;
                }
            }
        }

        void finishText() {
            length = 0;
            toldFault = fault;
            toldPlace = place;
        }

        private void scanToken(int token, int from, int textEnd) {
            int start = from;
            while (start < textEnd && isBlank(bytes[start])) {
                start++;
            }
            starts[token] = start;
            ends[token] = start;
            values[token] = NONE;
            if (start >= textEnd) {
                kinds[token] = THE_END;
            } else if (isLetter(bytes[start])) {
                scanWord(token, textEnd);
            } else if (isDigit(bytes[start])) {
                scanNumber(token, textEnd);
            } else {
                kinds[token] = isSign(bytes[start]) ? SIGN : UNKNOWN;
                values[token] = bytes[start];
                ends[token] = start + 1;
            }
        }

        private void scanWord(int token, int textEnd) {
            int end = starts[token];
            while (end < textEnd && isLetter(bytes[end])) {
                end++;
            }
            kinds[token] = WORD;
            ends[token] = end;
            values[token] = reservedIndex(starts[token], end);
        }

        private void scanNumber(int token, int textEnd) {
            int end = starts[token];
            int number = 0;
            while (end < textEnd && isDigit(bytes[end])) {
                number = number * 10 + (bytes[end] - '0');
                end++;
            }
            kinds[token] = end - starts[token] <= LONGEST_NUMBER ? NUMBER : UNKNOWN;
            ends[token] = end;
            values[token] = number;
        }

        private int reservedIndex(int start, int end) {
            int index = 0;
            int matched = start;
            boolean alike = true;
            for (int i = 0; i < RESERVED.length(); i++) {
                char letter = RESERVED.charAt(i);
                if (letter == ' ') {
                    if (alike && matched == end) {
                        return index;
                    }
                    index++;
                    matched = start;
                    alike = true;
                } else if (alike && matched < end && bytes[matched] == letter) {
                    matched++;
                } else {
                    alike = false;
                }
            }
            return NONE;
        }

        private static boolean isBlank(int sign) {
            return sign == 10 || sign == 32;
        }

        private static boolean isLetter(int sign) {
            return sign >= 'a' && sign <= 'z';
        }

        private static boolean isDigit(int sign) {
            return sign >= '0' && sign <= '9';
        }

        private static boolean isSign(int sign) {
            return sign == ';' || isCompare(sign);
        }

        private static boolean isCompare(int sign) {
            return sign == '<' || sign == '>' || sign == '=';
        }

        /** On to the next TOKEN; nothing lies behind the last one. */
        void advance() {
            if (at < LONGEST && kinds[at] != THE_END && kinds[at] != UNKNOWN) {
                at++;
            }
        }

        boolean isEnd() {
            return kinds[at] == THE_END;
        }

        boolean isWord(int index) {
            return kinds[at] == WORD && values[at] == index;
        }

        /** The index of the reserved WORD here; NONE if there is none. */
        int wordHere() {
            return kinds[at] == WORD ? values[at] : NONE;
        }

        boolean isName() {
            return kinds[at] == WORD && values[at] == NONE && ends[at] - starts[at] <= LONGEST_NAME;
        }

        /** The letters of the NAME here, five bits each. */
        long nameHere() {
            long letters = 0;
            for (int i = starts[at]; i < ends[at]; i++) {
                letters = letters * 32 + (bytes[i] - 'a' + 1);
            }
            return letters;
        }

        boolean isWordOf(int letters) {
            return kinds[at] == WORD && ends[at] - starts[at] == letters;
        }

        int byteHere(int i) {
            int from = starts[at] + i;
            return i >= 0 && from < ends[at] ? bytes[from] : NONE;
        }

        /** Notes the FAULT at this TOKEN; what is no TOKEN at all is that first. */
        boolean blame(int faultKind) {
            fault = kinds[at] == UNKNOWN ? FAULT_UNKNOWN : faultKind;
            place = starts[at];
            return false;
        }

        boolean takeWord(int index) {
            if (!isWord(index)) {
                return blame(FAULT_PLACE);
            }
            advance();
            return true;
        }

        boolean takeStop() {
            if (kinds[at] != SIGN || values[at] != ';') {
                return blame(FAULT_PLACE);
            }
            advance();
            return true;
        }

        /** One of the signs that compare; NONE with a FAULT if there is none here. */
        int takeCompare() {
            int sign = values[at];
            if (kinds[at] != SIGN || !isCompare(sign)) {
                blame(FAULT_PLACE);
                return NONE;
            }
            advance();
            return sign;
        }

        /** A NUMBER that lies so; NONE with a FAULT if there is none here. */
        int takeNumber(int least, int most) {
            int number = values[at];
            if (kinds[at] != NUMBER) {
                blame(FAULT_PLACE);
                return NONE;
            }
            if (number < least || number > most) {
                blame(FAULT_NUMBER);
                return NONE;
            }
            advance();
            return number;
        }

        /** The CELL by two NUMBERS; NONE with a FAULT if there is none here. */
        int takeCell(Land land) {
            int x = takeNumber(0, land.wide - 1);
            if (x == NONE) {
                return NONE;
            }
            int y = takeNumber(0, land.rows - 1);
            return y == NONE ? NONE : Land.cellAt(x, y);
        }
    }

    /** Reads the TEXT of a LAND, whose FAULT stays with the tape. */
    private static final class LandReader {
        private final Tape tape;
        private Land land;
        private boolean copiesTold;

        LandReader(Tape tape) {
            this.tape = tape;
        }

        boolean readText(Land into, int n) {
            land = into;
            land.clear();
            copiesTold = false;
            tape.beginText(n);
            if (!readWide() || !readRows()) {
                return false;
            }
            for (int part = 0; part < Tape.LONGEST && !tape.isEnd(); part++) {
                if (!readPart()) {
                    return false;
                }
            }
            return true;
        }

        private boolean readWide() {
            if (!tape.takeWord(Tape.WIDE)) {
                return false;
            }
            int wide = tape.takeNumber(2, Land.MOST_WIDE);
            if (wide == NONE) {
                return false;
            }
            land.wide = wide;
            return tape.takeStop();
        }

        private boolean readRows() {
            for (int row = 0; row <= Land.MOST_ROWS && tape.isWord(Tape.ROW); row++) {
                if (land.rows >= Land.MOST_ROWS) {
                    return tape.blame(Tape.FAULT_TOO_MANY);
                }
                tape.advance();
                if (!readLetters()) {
                    return false;
                }
            }
            return land.rows > 0 || tape.blame(Tape.FAULT_PLACE);
        }

        private boolean readLetters() {
            if (!tape.isWordOf(land.wide)) {
                return tape.blame(Tape.FAULT_PLACE);
            }
            for (int x = 0; x < land.wide; x++) {
                int letter = Land.letterOf(tape.byteHere(x));
                if (letter == NONE) {
                    return tape.blame(Tape.FAULT_PLACE);
                }
                land.letter[Land.cellAt(x, land.rows)] = letter;
            }
            land.rows++;
            tape.advance();
            return tape.takeStop();
        }

        private boolean readPart() {
            if (tape.isWord(Tape.RISE)) {
                return readRise();
            }
            if (tape.isWord(Tape.COPIES)) {
                return readCopies();
            }
            if (tape.isWord(Tape.COMPANY)) {
                return readCompany();
            }
            return tape.blame(Tape.FAULT_PLACE);
        }

        private boolean readRise() {
            tape.advance();
            int cell = tape.takeCell(land);
            if (cell == NONE || !tape.takeWord(Tape.BY)) {
                return false;
            }
            int rise = tape.takeNumber(0, Land.MOST_RISE);
            if (rise == NONE) {
                return false;
            }
            land.rise[cell] = rise;
            return tape.takeStop();
        }

        private boolean readCopies() {
            if (copiesTold) {
                return tape.blame(Tape.FAULT_TWICE);
            }
            tape.advance();
            int copies = tape.takeNumber(1, Land.MOST_COPIES);
            if (copies == NONE) {
                return false;
            }
            land.copies = copies;
            copiesTold = true;
            return tape.takeStop();
        }

        private boolean readCompany() {
            if (land.companies >= Land.MOST_COMPANIES) {
                return tape.blame(Tape.FAULT_TOO_MANY);
            }
            tape.advance();
            if (!tape.isName()) {
                return tape.blame(Tape.FAULT_PLACE);
            }
            long name = tape.nameHere();
            if (land.companyNamed(name) != NONE) {
                return tape.blame(Tape.FAULT_NAME);
            }
            tape.advance();
            if (!tape.takeWord(Tape.AT)) {
                return false;
            }
            int home = tape.takeCell(land);
            if (home == NONE || !tape.takeWord(Tape.TO)) {
                return false;
            }
            int goal = tape.takeCell(land);
            if (goal == NONE) {
                return false;
            }
            int by = readBy();
            if (by == NONE) {
                return false;
            }
            land.addCompany(name, home, goal, by);
            return tape.takeStop();
        }

        private int readBy() {
            if (!tape.isWord(Tape.BY)) {
                return 0;
            }
            tape.advance();
            return tape.takeNumber(0, land.copies - 1);
        }
    }

    /** Reads the TEXT of ORDERS, whose FAULT stays with the tape. */
    private static final class OrdersReader {
        private final Tape tape;
        final Orders orders = new Orders();
        private Land land;
        /** Where the whens and loops stand that have no end yet. */
        private final int[] open = new int[Orders.MOST_DEEP];
        private int depth;

        OrdersReader(Tape tape) {
            this.tape = tape;
        }

        boolean readText(Land on, int n) {
            land = on;
            orders.clear();
            depth = 0;
            tape.beginText(n);
            for (int step = 0; step < Tape.LONGEST && !tape.isEnd(); step++) {
                boolean read = tape.isWord(Tape.END) ? readEnd() : mayBegin() && readStep(beginStep());
                if (!read || !tape.takeStop()) {
                    return false;
                }
            }
            return depth == 0 || tape.blame(Tape.FAULT_PLACE);
        }

        private boolean readEnd() {
            if (depth <= 0) {
                return tape.blame(Tape.FAULT_PLACE);
            }
            tape.advance();
            depth--;
            orders.addEnd(open[depth]);
            return true;
        }

        /** Whether a STEP may begin with the TOKEN here. */
        private boolean mayBegin() {
            int word = tape.wordHere();
            boolean opens = word == Tape.WHEN || word == Tape.LOOP;
            if (!opens && (word < Tape.BITE || word > Tape.HOME) && word != Tape.STOP) {
                return tape.blame(Tape.FAULT_PLACE);
            }
            if (orders.steps >= Orders.MOST_STEPS) {
                return tape.blame(Tape.FAULT_TOO_MANY);
            }
            if (opens && depth >= Orders.MOST_DEEP) {
                return tape.blame(Tape.FAULT_TOO_DEEP);
            }
            return true;
        }

        /** Takes a STEP's WORD, or that of a when's test: NONE with a FAULT if that is none. */
        private int beginStep() {
            int word = tape.wordHere();
            tape.advance();
            if ((word == Tape.WHEN || word == Tape.LOOP) && depth < Orders.MOST_DEEP) {
                open[depth] = orders.size;
                depth++;
            }
            if (word != Tape.WHEN) {
                return word;
            }
            int test = tape.wordHere();
            if (test < Tape.EATEN || test > Tape.CRUMBS) {
                tape.blame(Tape.FAULT_PLACE);
                return NONE;
            }
            tape.advance();
            return test;
        }

        private boolean readStep(int word) {
            switch (word) {
                case NONE:
                    return false;
                case Tape.BITE:
                case Tape.HONEY:
                case Tape.EATEN:
                    return readCopyCell(word);
                case Tape.MOULD:
                    return readTwo(word, tape.takeNumber(0, land.copies - 1), 0);
                case Tape.STEAM:
                    return readCopyAnd(word, Tape.TO, land.copies - 1);
                case Tape.MOUSE:
                    return readCopyAnd(word, Tape.BY, MOST_NIGHTS);
                case Tape.MARCH:
                case Tape.ARRIVES:
                    return readName(word);
                case Tape.LOOP:
                    return readTwo(word, tape.takeNumber(1, Orders.MOST_TURNS), 0);
                case Tape.CRUMBS:
                    return readCrumbs();
                default:
                    return orders.add(word, 0, 0);
            }
        }

        /** Adds a STEP unless one of its two parts was found wanting. */
        private boolean readTwo(int word, int first, int second) {
            return first != NONE && second != NONE && orders.add(word, first, second);
        }

        private boolean readCopyCell(int word) {
            int copy = tape.takeNumber(0, land.copies - 1);
            if (copy == NONE || !tape.takeWord(Tape.AT)) {
                return false;
            }
            return readTwo(word, copy, tape.takeCell(land));
        }

        private boolean readCopyAnd(int word, int between, int most) {
            int copy = tape.takeNumber(0, land.copies - 1);
            if (copy == NONE || !tape.takeWord(between)) {
                return false;
            }
            return readTwo(word, copy, tape.takeNumber(0, most));
        }

        private boolean readName(int word) {
            if (!tape.isName()) {
                return tape.blame(Tape.FAULT_PLACE);
            }
            int company = land.companyNamed(tape.nameHere());
            if (company == NONE) {
                return tape.blame(Tape.FAULT_NAME);
            }
            tape.advance();
            return orders.add(word, company, 0);
        }

        private boolean readCrumbs() {
            int sign = tape.takeCompare();
            if (sign == NONE) {
                return false;
            }
            return readTwo(Tape.CRUMBS, sign, tape.takeNumber(0, Orders.MOST_CRUMBS));
        }
    }

    /** STEPS in a row; a when stands as its test's WORD. */
    private static final class Orders {
        static final int LONGEST_TEXT = 300;
        static final int MOST_STEPS = 30;
        static final int MOST_DEEP = 3;
        static final int MOST_TURNS = 99;
        static final int MOST_CRUMBS = 9999;
        /** Each STEP may have an end of its own. */
        static final int LONGEST = 2 * MOST_STEPS;

        int size = NONE;
        int steps;
        final int[] word = new int[LONGEST];
        final int[] first = new int[LONGEST];
        final int[] second = new int[LONGEST];
        /** Of a when or loop where its end is, of an end where that began. */
        final int[] partner = new int[LONGEST];

        boolean areThere() {
            return size != NONE;
        }

        void forget() {
            size = NONE;
            steps = 0;
        }

        void clear() {
            size = 0;
            steps = 0;
        }

        boolean add(int stepWord, int firstPart, int secondPart) {
            if (size < 0 || size >= LONGEST) {
                return false;
            }
            word[size] = stepWord;
            first[size] = firstPart;
            second[size] = secondPart;
            partner[size] = NONE;
            size++;
            steps++;
            return true;
        }

        void addEnd(int beginning) {
            int at = size;
            if (beginning >= 0 && beginning < at && add(Tape.END, 0, 0)) {
                steps--;
                partner[at] = beginning;
                partner[beginning] = at;
            }
        }

        void becomeLike(Orders other) {
            size = other.size;
            steps = other.steps;
            System.arraycopy(other.word, 0, word, 0, LONGEST);
            System.arraycopy(other.first, 0, first, 0, LONGEST);
            System.arraycopy(other.second, 0, second, 0, LONGEST);
            System.arraycopy(other.partner, 0, partner, 0, LONGEST);
        }
    }

    /**
     * A LAND with all that became of it. A CELL is 8 times y and x whatever is WIDE, so that a set of
     * CELLS is a long, and a CELL's neighbours are found without dividing.
     */
    private static final class Land {
        static final int MOST_WIDE = 8;
        static final int MOST_ROWS = 6;
        static final int CELLS = MOST_WIDE * MOST_ROWS;
        static final int MOST_COPIES = 3;
        static final int MOST_COMPANIES = 6;
        static final int MOST_RISE = 9;

        static final int WHOLE = 0;
        static final int BITTEN = 1;
        static final int MOULDY = 2;
        static final int HONEYED = 3;

        static final int ROAD = 1;
        static final int WATER = 3;
        static final int FORD = 4;
        static final int NOTHING = 5;
        static final int FOREST = 6;
        static final int ENEMY = 7;

        static final String LETTERS = "prhwf";
        /** By letter: the cost, which is the CRUMBS too; water's is CRUMBS alone. */
        static final int[] LETTER_CRUMBS = {2, 1, 4, 5, 3};
        static final int FOREST_COST = 5;

        static final long ALL_BUT_RIGHT = 0x7f7f7f7f7f7fL;
        static final long ALL_BUT_LEFT = 0xfefefefefefeL;

        int wide;
        int rows;
        int copies;
        int companies;
        int eaten;
        final int[] letter = new int[CELLS];
        final int[] rise = new int[CELLS];
        final int[] state = new int[MOST_COPIES * CELLS];
        final long[] name = new long[MOST_COMPANIES];
        final int[] home = new int[MOST_COMPANIES];
        final int[] at = new int[MOST_COMPANIES];
        final int[] goal = new int[MOST_COMPANIES];
        final int[] by = new int[MOST_COMPANIES];
        final int[] spent = new int[MOST_COMPANIES];
        final Orders orders = new Orders();

        void clear() {
            wide = 0;
            rows = 0;
            copies = 1;
            companies = 0;
            eaten = 0;
            Arrays.fill(letter, 0);
            Arrays.fill(rise, 0);
            Arrays.fill(state, WHOLE);
            orders.forget();
        }

        void becomePlains(int columns, int lines) {
            clear();
            wide = columns;
            rows = lines;
        }

        void becomeLike(Land other) {
            wide = other.wide;
            rows = other.rows;
            copies = other.copies;
            companies = other.companies;
            eaten = other.eaten;
            System.arraycopy(other.letter, 0, letter, 0, CELLS);
            System.arraycopy(other.rise, 0, rise, 0, CELLS);
            System.arraycopy(other.state, 0, state, 0, MOST_COPIES * CELLS);
            System.arraycopy(other.name, 0, name, 0, MOST_COMPANIES);
            System.arraycopy(other.home, 0, home, 0, MOST_COMPANIES);
            System.arraycopy(other.at, 0, at, 0, MOST_COMPANIES);
            System.arraycopy(other.goal, 0, goal, 0, MOST_COMPANIES);
            System.arraycopy(other.by, 0, by, 0, MOST_COMPANIES);
            System.arraycopy(other.spent, 0, spent, 0, MOST_COMPANIES);
            orders.becomeLike(other.orders);
        }

        static int letterOf(int sign) {
            for (int i = 0; i < LETTERS.length(); i++) {
                if (LETTERS.charAt(i) == sign) {
                    return i;
                }
            }
            return NONE;
        }

        static int cellAt(int x, int y) {
            return y * MOST_WIDE + x;
        }

        static int xOf(int cell) {
            return cell & MOST_WIDE - 1;
        }

        static int yOf(int cell) {
            return cell >> 3;
        }

        int numberOf(int cell) {
            return wide * yOf(cell) + xOf(cell);
        }

        boolean hasCell(int x, int y) {
            return x >= 0 && x < wide && y >= 0 && y < rows;
        }

        /** Whether a number below CELLS is a CELL of this LAND, which may be smaller. */
        boolean isCell(int cell) {
            return cell >= 0 && hasCell(xOf(cell), yOf(cell));
        }

        boolean hasCopy(int copy) {
            return copy >= 0 && copy < copies;
        }

        boolean hasCopyCell(int copy, int x, int y) {
            return hasCopy(copy) && hasCell(x, y);
        }

        boolean hasCompany(int company) {
            return company >= 0 && company < companies;
        }

        /** The CELL beside: 0 right, 1 down, 2 left, 3 up; NONE where there is none. */
        int beside(int cell, int direction) {
            int x = cell & MOST_WIDE - 1;
            switch (direction) {
                case 0:
                    return x + 1 < wide ? cell + 1 : NONE;
                case 1:
                    return cell + MOST_WIDE < rows * MOST_WIDE ? cell + MOST_WIDE : NONE;
                case 2:
                    return x > 0 ? cell - 1 : NONE;
                default:
                    return cell >= MOST_WIDE ? cell - MOST_WIDE : NONE;
            }
        }

        int companyNamed(long wanted) {
            for (int i = 0; i < companies; i++) {
                if (name[i] == wanted) {
                    return i;
                }
            }
            return NONE;
        }

        void addCompany(long itsName, int from, int to, int copy) {
            if (companies < MOST_COMPANIES) {
                name[companies] = itsName;
                home[companies] = from;
                at[companies] = from;
                goal[companies] = to;
                by[companies] = copy;
                spent[companies] = 0;
                companies++;
            }
        }

        void sendHome() {
            System.arraycopy(home, 0, at, 0, MOST_COMPANIES);
        }

        boolean hasArrived(int company) {
            return at[company] == goal[company];
        }

        boolean isWater(int cell) {
            return letter[cell] == WATER;
        }

        int crumbsOf(int cell) {
            return LETTER_CRUMBS[letter[cell]] + rise[cell];
        }

        /** What it costs to come into a CELL of the ground; 0: nobody comes into it. */
        int groundCost(int cell) {
            return letter[cell] == WATER ? 0 : LETTER_CRUMBS[letter[cell]] + rise[cell];
        }

        int stateOf(int copy, int cell) {
            return state[copy * CELLS + cell];
        }

        int shownKind(int copy, int cell) {
            switch (stateOf(copy, cell)) {
                case BITTEN:
                    return NOTHING;
                case MOULDY:
                    return FOREST;
                case HONEYED:
                    return ENEMY;
                default:
                    return letter[cell];
            }
        }

        /** What it costs to come into a CELL by a COPY; 0: nobody would. */
        int shownCost(int copy, int cell) {
            switch (stateOf(copy, cell)) {
                case WHOLE:
                    return groundCost(cell);
                case MOULDY:
                    return FOREST_COST + rise[cell];
                default:
                    return 0;
            }
        }

        boolean eat(int copy, int cell) {
            if (stateOf(copy, cell) == BITTEN) {
                return false;
            }
            state[copy * CELLS + cell] = BITTEN;
            eaten += crumbsOf(cell);
            return true;
        }

        boolean growMould(int copy, int cell) {
            if (stateOf(copy, cell) != WHOLE) {
                return false;
            }
            state[copy * CELLS + cell] = MOULDY;
            return true;
        }

        boolean spreadHoney(int copy, int cell) {
            int was = stateOf(copy, cell);
            if (was != WHOLE && was != MOULDY) {
                return false;
            }
            state[copy * CELLS + cell] = HONEYED;
            return true;
        }

        boolean wipe(int copy, int cell) {
            int was = stateOf(copy, cell);
            if (was != MOULDY && was != HONEYED) {
                return false;
            }
            state[copy * CELLS + cell] = WHOLE;
            return true;
        }

        /** No CRUMBS are EATEN by it, and none given back: what is baked anew comes from nowhere. */
        void steamOff(int copy, int onto) {
            System.arraycopy(state, copy * CELLS, state, onto * CELLS, CELLS);
        }

        int differences(int a, int b) {
            int unlikeCells = 0;
            for (int cell = 0; cell < CELLS; cell++) {
                if (isCell(cell) && stateOf(a, cell) != stateOf(b, cell)) {
                    unlikeCells++;
                }
            }
            return unlikeCells;
        }

        long cellsThatAre(int copy, int how) {
            long set = 0;
            for (int cell = 0; cell < CELLS; cell++) {
                if (isCell(cell) && stateOf(copy, cell) == how) {
                    set |= 1L << cell;
                }
            }
            return set;
        }

        int crumbsLeft() {
            int left = 0;
            for (int copy = 0; copy < copies; copy++) {
                for (int cell = 0; cell < CELLS; cell++) {
                    if (isCell(cell) && stateOf(copy, cell) != BITTEN) {
                        left += crumbsOf(cell);
                    }
                }
            }
            return left;
        }

        int largestHeap(long cells) {
            int largest = 0;
            long rest = cells;
            for (int heaps = 0; heaps < CELLS && rest != 0; heaps++) {
                long heap = heapFrom(rest & -rest, rest);
                largest = Math.max(largest, Long.bitCount(heap));
                rest &= ~heap;
            }
            return largest;
        }

        private static long heapFrom(long seed, long cells) {
            long heap = seed;
            for (int turn = 0; turn < CELLS; turn++) {
                long wider = heap | (heap & ALL_BUT_RIGHT) << 1 | (heap & ALL_BUT_LEFT) >>> 1
                    | heap << MOST_WIDE | heap >>> MOST_WIDE;
                heap = wider & cells;
            }
            return heap;
        }

        /** How many CELLS FIT where the left half of a meets the right half of b, moved down. */
        int fitting(int a, int b, int move) {
            int seam = (wide + 1) / 2;
            int fit = 0;
            for (int y = 0; y < rows; y++) {
                if (seam > 0 && hasCell(seam, y - move)
                    && fitTogether(shownKind(a, cellAt(seam - 1, y)), shownKind(b, cellAt(seam, y - move)))) {
                    fit++;
                }
            }
            return fit;
        }

        private static boolean fitTogether(int left, int right) {
            return left == right || isPassage(left) && isPassage(right);
        }

        private static boolean isPassage(int shown) {
            return shown == ROAD || shown == FORD;
        }
    }

    /** The cheapest row of CELLS from one to another, by the costs that were looked at last. */
    private static final class Ways {
        /** A CELL more weighs so little that it only tells rows of one cost apart. */
        private static final int COST_WEIGHT = 64;
        private static final int TOO_FAR = 1_000_000;
        private static final int QUEUE = 64;

        /** What it costs to come into each CELL; 0: nobody comes into it. */
        final int[] cost = new int[Land.CELLS];
        /** The weight of the cheapest row from each CELL to the goal. */
        private final int[] far = new int[Land.CELLS];
        private final int[] queue = new int[QUEUE];
        /** The CELLS in the queue, as a set. */
        private long waiting;
        private int queueHead;
        private int queueTail;
        /** The CELLS of the row traced last: from the first on, steps more. */
        final int[] path = new int[Land.CELLS];
        int steps;
        /** The same CELLS as a set, without that where it begins. */
        long entered;

        void lookAt(Land land, int copy) {
            for (int cell = 0; cell < Land.CELLS; cell++) {
                cost[cell] = land.isCell(cell) ? land.shownCost(copy, cell) : 0;
            }
        }

        void lookAtGround(Land land) {
            for (int cell = 0; cell < Land.CELLS; cell++) {
                cost[cell] = land.isCell(cell) ? land.groundCost(cell) : 0;
            }
        }

        /** A COMPANY's WAY, traced: its cost, or NONE. */
        int findWay(Land land, int company) {
            lookAt(land, land.by[company]);
            return retrace(land, company);
        }

        /** The same by the costs as they are, with nothing looked at anew. */
        int retrace(Land land, int company) {
            int price = measure(land, land.at[company], land.goal[company]);
            entered = 0;
            if (price != NONE) {
                trace(land, land.at[company], land.goal[company]);
            }
            return price;
        }

        /** The least cost from one CELL to another, or NONE. */
        int measure(Land land, int from, int to) {
            Arrays.fill(far, TOO_FAR);
            waiting = 0;
            queueHead = 0;
            queueTail = 0;
            reachCell(to, 0);
            // A CELL comes into the queue at most once for each length that a row may have.
            for (int taken = 0; taken < Land.CELLS * Land.CELLS && queueHead != queueTail; taken++) {
                int cell = queue[queueHead];
                queueHead = queueHead + 1 & QUEUE - 1;
                waiting &= ~(1L << cell);
                int weight = far[cell] + cost[cell] * COST_WEIGHT + 1;
                for (int direction = 0; direction < 4 && cost[cell] > 0; direction++) {
                    int near = land.beside(cell, direction);
                    // What weighs as much as a row from the beginning itself is part of no better one.
                    if (near != NONE && weight < far[near] && weight < far[from]) {
                        reachCell(near, weight);
                    }
                }
            }
            return far[from] == TOO_FAR ? NONE : far[from] / COST_WEIGHT;
        }

        private void reachCell(int cell, int weight) {
            far[cell] = weight;
            if ((waiting >>> cell & 1L) == 0) {
                waiting |= 1L << cell;
                queue[queueTail] = cell;
                queueTail = queueTail + 1 & QUEUE - 1;
            }
        }

        /** Goes the row that was measured last, right ahead of down, left, up where both are as good. */
        void trace(Land land, int from, int to) {
            int cell = from;
            steps = 0;
            path[0] = from;
            entered = 0;
            for (int step = 1; step < Land.CELLS && cell != to; step++) {
                int next = NONE;
                for (int direction = 0; direction < 4 && next == NONE; direction++) {
                    int near = land.beside(cell, direction);
                    if (near != NONE && cost[near] > 0 && far[near] + cost[near] * COST_WEIGHT + 1 == far[cell]) {
                        next = near;
                    }
                }
                if (next == NONE) {
                    return;
                }
                cell = next;
                path[step] = cell;
                steps = step;
                entered |= 1L << cell;
            }
        }

        /** What the row traced last costs on the ground; NONE: water lies on it. */
        int trueCost(Land land) {
            int sum = 0;
            for (int step = 1; step <= steps; step++) {
                if (land.isWater(path[step])) {
                    return NONE;
                }
                sum += land.groundCost(path[step]);
            }
            return sum;
        }

        /** Moves a COMPANY along the row traced last till water stops it: how many CELLS. */
        int lead(Land land, int company) {
            for (int step = 1; step <= steps; step++) {
                if (land.isWater(path[step])) {
                    return step - 1;
                }
                land.at[company] = path[step];
                land.spent[company] += land.groundCost(path[step]);
            }
            return steps;
        }
    }

    /** What bites do to the WAYS of all COMPANIES by one COPY. */
    private static final class Eater {
        private static final int LOST_WAY = 100;
        private static final int UNKNOWN = -2;

        private final Ways ways;
        private Land land;
        /** CELLS that may be BITTEN without a COMPANY's being or coming there. */
        private long free;
        /** NONE for a COMPANY that has no WAY, or another COPY. */
        private final int[] price = new int[Land.MOST_COMPANIES];
        private final long[] entered = new long[Land.MOST_COMPANIES];
        /** The same if one CELL of that WAY were BITTEN: looked for when first asked. */
        private final int[] priceWithout = new int[Land.MOST_COMPANIES * Land.CELLS];
        private final long[] enteredWithout = new long[Land.MOST_COMPANIES * Land.CELLS];
        int mostLeft;
        int leastCost;
        int first;
        int second;

        Eater(Ways ways) {
            this.ways = ways;
        }

        /** Looks at one COPY; all that follows is asked of it. */
        void sitDown(Land at, int copy) {
            land = at;
            free = 0;
            for (int cell = 0; cell < Land.CELLS; cell++) {
                if (land.isCell(cell) && land.stateOf(copy, cell) != Land.BITTEN) {
                    free |= 1L << cell;
                }
            }
            ways.lookAt(land, copy);
            Arrays.fill(priceWithout, UNKNOWN);
            for (int company = 0; company < land.companies; company++) {
                price[company] = NONE;
                entered[company] = 0;
                if (land.by[company] == copy) {
                    free &= ~(1L << land.at[company] | 1L << land.goal[company]);
                    price[company] = ways.retrace(land, company);
                    entered[company] = ways.entered;
                }
            }
        }

        private static boolean holds(long set, int cell) {
            return (set >>> cell & 1L) != 0;
        }

        private static int slot(int company, int cell) {
            return company * Land.CELLS + cell;
        }

        private int priceWithout(int company, int cell) {
            // A bite beside the WAY leaves it the cheapest.
            if (!holds(entered[company], cell)) {
                return price[company];
            }
            int slot = slot(company, cell);
            if (priceWithout[slot] == UNKNOWN) {
                int was = ways.cost[cell];
                ways.cost[cell] = 0;
                priceWithout[slot] = ways.retrace(land, company);
                enteredWithout[slot] = ways.entered;
                ways.cost[cell] = was;
            }
            return priceWithout[slot];
        }

        private int priceWithoutBoth(int company, int a, int b) {
            int on = holds(entered[company], a) ? a : b;
            int other = on == a ? b : a;
            int once = priceWithout(company, on);
            boolean moved = holds(entered[company], on);
            long left = moved ? enteredWithout[slot(company, on)] : entered[company];
            if (once == NONE || !holds(left, other)) {
                return once;
            }
            int wasOn = ways.cost[on];
            int wasOther = ways.cost[other];
            ways.cost[on] = 0;
            ways.cost[other] = 0;
            int twice = ways.measure(land, land.at[company], land.goal[company]);
            ways.cost[on] = wasOn;
            ways.cost[other] = wasOther;
            return twice;
        }

        /** SUPPER of one CELL or two; false if there are too few. */
        boolean choose(int cells) {
            first = NONE;
            second = NONE;
            for (int a = 0; a < Land.CELLS; a++) {
                if (cells == 1 && holds(free, a)) {
                    consider(a, NONE);
                }
                for (int b = a + 1; b < Land.CELLS && cells == 2 && holds(free, a); b++) {
                    if (holds(free, b)) {
                        consider(a, b);
                    }
                }
            }
            return first != NONE;
        }

        private void consider(int a, int b) {
            int left = 0;
            int sum = 0;
            for (int company = 0; company < land.companies; company++) {
                int its = b == NONE ? priceWithout(company, a) : priceWithoutBoth(company, a, b);
                if (its != NONE) {
                    left++;
                    sum += its;
                }
            }
            if (first == NONE || left > mostLeft || left == mostLeft && sum < leastCost) {
                mostLeft = left;
                leastCost = sum;
                first = a;
                second = b;
            }
        }

        /** WORTH of a CELL. */
        int lossBy(int cell) {
            int loss = 0;
            for (int company = 0; company < land.companies; company++) {
                if (price[company] != NONE) {
                    int without = priceWithout(company, cell);
                    loss += without == NONE ? LOST_WAY : without - price[company];
                }
            }
            return loss;
        }

        /** The CELL that is MOST WORTH, or NONE. */
        int dearestCell() {
            int dearest = NONE;
            int most = NONE;
            for (int cell = 0; cell < Land.CELLS; cell++) {
                if (holds(free, cell) && lossBy(cell) > most) {
                    most = lossBy(cell);
                    dearest = cell;
                }
            }
            return dearest;
        }
    }

    /**
     * The fewest CELLS that part two others: as many as there are rows between them without a common
     * CELL. Each CELL is two knots, a door in and a door out, with one passage between them; such rows
     * are laid one by one, each going back over parts of those ahead where that makes room.
     */
    private static final class Cutter {
        private static final int KNOTS = 2 * Land.CELLS;

        private Land land;
        private int[] cost;
        private int from;
        private int to;
        /** The CELLS that a row goes through, as a set. */
        private long passed;
        /** By CELL the directions in which a row goes on from it, as a set. */
        private final int[] onward = new int[Land.CELLS];
        private final int[] cameFrom = new int[KNOTS];
        private final int[] queue = new int[KNOTS];
        private int queued;

        int fewest(Land on, int[] costs, int start, int goal) {
            land = on;
            cost = costs;
            from = start;
            to = goal;
            passed = 0;
            Arrays.fill(onward, 0);
            int rows = 0;
            // There are no more rows than a CELL has neighbours.
            for (int turn = 0; turn < 4 && findRow(); turn++) {
                layRow();
                rows++;
            }
            return rows;
        }

        private static int doorIn(int cell) {
            return 2 * cell;
        }

        private static int doorOut(int cell) {
            return 2 * cell + 1;
        }

        private static int turned(int direction) {
            return direction + 2 & 3;
        }

        private boolean isPassed(int cell) {
            return (passed >>> cell & 1L) != 0;
        }

        private boolean goesOn(int cell, int direction) {
            return (onward[cell] >>> direction & 1) != 0;
        }

        private boolean findRow() {
            Arrays.fill(cameFrom, NONE);
            queued = 0;
            come(doorOut(from), doorOut(from));
            for (int head = 0; head < queued && cameFrom[doorIn(to)] == NONE; head++) {
                int cell = queue[head] >> 1;
                if (queue[head] == doorOut(cell)) {
                    goOut(cell);
                } else {
                    goIn(cell);
                }
            }
            return cameFrom[doorIn(to)] != NONE;
        }

        private void come(int knot, int before) {
            if (cameFrom[knot] == NONE && queued < KNOTS) {
                cameFrom[knot] = before;
                queue[queued] = knot;
                queued++;
            }
        }

        private void goOut(int cell) {
            for (int direction = 0; direction < 4; direction++) {
                int near = land.beside(cell, direction);
                if (near != NONE && near != from && cost[near] > 0 && !goesOn(cell, direction)) {
                    come(doorIn(near), doorOut(cell));
                }
            }
            if (isPassed(cell)) {
                come(doorIn(cell), doorOut(cell));
            }
        }

        private void goIn(int cell) {
            if (!isPassed(cell)) {
                come(doorOut(cell), doorIn(cell));
            }
            for (int direction = 0; direction < 4; direction++) {
                int near = land.beside(cell, direction);
                if (near != NONE && goesOn(near, turned(direction))) {
                    come(doorOut(near), doorIn(cell));
                }
            }
        }

        private void layRow() {
            int knot = doorIn(to);
            for (int turn = 0; turn < KNOTS && knot != doorOut(from); turn++) {
                int before = cameFrom[knot];
                if (before < 0) {
                    return;
                }
                lay(before, knot);
                knot = before;
            }
        }

        private void lay(int before, int knot) {
            int a = before >> 1;
            int b = knot >> 1;
            boolean outwards = before == doorOut(a);
            if (a == b) {
                passed = outwards ? passed & ~(1L << a) : passed | 1L << a;
                return;
            }
            for (int direction = 0; direction < 4; direction++) {
                if (outwards && land.beside(a, direction) == b) {
                    onward[a] |= 1 << direction;
                }
                if (!outwards && land.beside(b, direction) == a) {
                    onward[b] &= ~(1 << direction);
                }
            }
        }
    }

    /** All walks of a MOUSE, counted. */
    private static final class Mouse {
        private long[] tonight = new long[Land.CELLS];
        private long[] tomorrow = new long[Land.CELLS];

        static long allWalks(int nights) {
            return 1L << 2 * nights;
        }

        /** How many walks of so many nights come to a CELL. */
        long walksThrough(Land land, int from, int target, int nights) {
            if (from == target) {
                return allWalks(nights);
            }
            Arrays.fill(tonight, 0L);
            tonight[from] = 1;
            for (int night = 0; night < nights; night++) {
                walkOn(land, target);
            }
            long past = 0;
            for (int cell = 0; cell < Land.CELLS; cell++) {
                past += tonight[cell];
            }
            return allWalks(nights) - past;
        }

        /** One night more of the walks that have not come to the target; those that do are dropped. */
        private void walkOn(Land land, int target) {
            Arrays.fill(tomorrow, 0L);
            for (int cell = 0; cell < Land.CELLS; cell++) {
                for (int direction = 0; direction < 4 && tonight[cell] != 0; direction++) {
                    int near = land.beside(cell, direction);
                    int next = near == NONE ? cell : near;
                    if (next != target) {
                        tomorrow[next] += tonight[cell];
                    }
                }
            }
            long[] swap = tonight;
            tonight = tomorrow;
            tomorrow = swap;
        }

        /** How many CELLS all walks of so many nights come to, together. */
        long cellsOnAllWalks(Land land, int from, int nights) {
            long sum = 0;
            for (int cell = 0; cell < Land.CELLS; cell++) {
                if (land.isCell(cell)) {
                    sum += walksThrough(land, from, cell, nights);
                }
            }
            return sum;
        }
    }

    /** Carries ORDERS out. */
    private static final class Runner {
        private static final int MOST_DONE = 300;
        /** Each STEP done may be a loop whose end is come to so often without a STEP in between. */
        private static final int MOST_TURNS = MOST_DONE * (Orders.MOST_TURNS + 2);

        private final Ways ways;
        private final int[] turnsLeft = new int[Orders.LONGEST];
        private Land land;
        private Orders orders;
        private int drawn;
        private int at;
        private boolean halted;
        private int done;
        int missed;
        int bitten;
        int stuckMarches;
        boolean stepLeft;

        Runner(Ways ways) {
            this.ways = ways;
        }

        /** All STEPS by a seed on a LAND with ORDERS: how many were done. */
        int carryOut(Land on, int seed) {
            land = on;
            orders = on.orders;
            drawn = seed;
            at = 0;
            halted = false;
            done = 0;
            missed = 0;
            bitten = 0;
            stuckMarches = 0;
            stepLeft = false;
            for (int turn = 0; turn < MOST_TURNS && !halted && at >= 0 && at < orders.size; turn++) {
                if (orders.word[at] == Tape.END) {
                    comeToEnd();
                } else if (done >= MOST_DONE) {
                    stepLeft = true;
                    halted = true;
                } else {
                    done++;
                    doStep();
                }
            }
            return done;
        }

        private void comeToEnd() {
            int beginning = orders.partner[at];
            at++;
            if (beginning >= 0 && orders.word[beginning] == Tape.LOOP) {
                turnsLeft[beginning]--;
                if (turnsLeft[beginning] > 0) {
                    at = beginning + 1;
                }
            }
        }

        private void doStep() {
            int step = at;
            int first = orders.first[step];
            int second = orders.second[step];
            at++;
            switch (orders.word[step]) {
                case Tape.BITE:
                    missUnless(eatCell(first, second));
                    break;
                case Tape.MOULD:
                    missUnless(land.growMould(first, drawCell()));
                    break;
                case Tape.HONEY:
                    missUnless(land.spreadHoney(first, second));
                    break;
                case Tape.STEAM:
                    land.steamOff(first, second);
                    missUnless(first != second);
                    break;
                case Tape.MOUSE:
                    letMouseWalk(first, second);
                    break;
                case Tape.MARCH:
                    missUnless(goMarching(first));
                    break;
                case Tape.HOME:
                    land.sendHome();
                    break;
                case Tape.LOOP:
                    turnsLeft[step] = first;
                    break;
                case Tape.STOP:
                    halted = true;
                    break;
                default:
                    if (!isSo(step)) {
                        at = orders.partner[step] + 1;
                    }
            }
        }

        private void missUnless(boolean could) {
            if (!could) {
                missed++;
            }
        }

        private boolean isSo(int step) {
            int first = orders.first[step];
            int second = orders.second[step];
            switch (orders.word[step]) {
                case Tape.EATEN:
                    return land.stateOf(first, second) == Land.BITTEN;
                case Tape.ARRIVES:
                    return land.hasArrived(first);
                default:
                    return first == '<' && land.eaten < second || first == '>' && land.eaten > second
                        || first == '=' && land.eaten == second;
            }
        }

        private boolean eatCell(int copy, int cell) {
            if (!land.eat(copy, cell)) {
                return false;
            }
            bitten++;
            return true;
        }

        private boolean goMarching(int company) {
            if (ways.findWay(land, company) == NONE) {
                return false;
            }
            if (ways.lead(land, company) < ways.steps) {
                stuckMarches++;
            }
            return true;
        }

        /** A MOUSE that comes to a BITTEN CELL finds nothing; no STEP is MISSED by that. */
        private void letMouseWalk(int copy, int nights) {
            int cell = drawCell();
            eatCell(copy, cell);
            for (int night = 0; night < nights; night++) {
                int near = land.beside(cell, drawBy(4));
                cell = near == NONE ? cell : near;
                eatCell(copy, cell);
            }
        }

        private int drawCell() {
            int x = drawBy(land.wide);
            int y = drawBy(land.rows);
            return Land.cellAt(x, y);
        }

        private int drawBy(int n) {
            drawn = drawn * 2837 + 10331 & 65535;
            return n > 0 ? drawn / 8 % n : 0;
        }
    }
}
