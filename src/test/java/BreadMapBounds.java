import java.math.BigInteger;
import java.util.function.IntConsumer;

/**
 * What calls that are taken do and answer at their bounds: the empty and the full, the least and the most,
 * what is next to an edge, and of several that are as good the one that the document names.
 */
public final class BreadMapBounds extends Checks {
    private static final String[] CALLS = {"bite", "mould", "honey", "clean"};
    private static final String LARGEST = "wide 8;" + times(6, "row pppppppp;") + "copies 3;";

    public static void main(String[] args) {
        newObject();
        cutNumbers();
        longTrays();
        pours();
        stateChanges();
        crumbsStay();
        eatenUp();
        steams();
        heaps();
        shown();
        firstSteps();
        fewestCells();
        endsOfWays();
        marches();
        reaches();
        seen();
        suppers();
        cuts();
        worths();
        told();
        seams();
        moves();
        fits();
        mice();
        tell();
    }

    // ---- TRAYS

    private static void newObject() {
        sentence(1, "TRAYS are MISSING, a LAND of 2 by 1 plains, one COPY, no COMPANIES, ORDERS, MARKS, an empty tape", null);
        due("status()", x.status(), 0);
        due("top()", x.top(), 0);
        due("bottom()", x.bottom(), 1);
        for (int cell = 0; cell < 2; cell++) {
            due("a plain", x.ground(cell, 0, 0), 0);
            due("its cost", x.ground(cell, 0, 1), 2);
            due("it does not rise", x.ground(cell, 0, 2), 0);
            due("its crumbs", x.ground(cell, 0, 3), 2);
            due("whole", x.cell(0, cell, 0), 0);
            due("shown", x.shows(0, cell, 0), 0);
        }
        due("reach", x.reach(), 0);
        due("one more mark", x.mark(), 1);
        due("of no bytes", x.orders(0), 0);
        due("run", x.run(0), 0);
        due("the tape has 20", x.feed(0, 0, 0, 0, 0), 20);
        due("back", x.back(), 0);
        refused("no orders again", x.run(0), 8);
    }

    private static void cutNumbers() {
        sentence(6, "numbers of 8, 16, 32 or 64 bits, with sign; what is written is cut to these", null);
        for (int sort = 0; sort < 4; sort++) {
            x.tray(sort, sort, 2);
            BigInteger span = BigInteger.ONE.shiftLeft(8 << sort);
            BigInteger most = span.shiftRight(1).subtract(BigInteger.ONE);
            BigInteger least = most.not();
            BigInteger[] written = {most, most.add(BigInteger.ONE), least, least.subtract(BigInteger.ONE), span, span.negate(),
                span.subtract(BigInteger.ONE), BigInteger.ZERO, BigInteger.ONE, BigInteger.ONE.negate()};
            long m = most.longValue();
            long[] read = {m, -m - 1, -m - 1, m, 0, 0, -1, 0, 1, -1};
            for (int i = 0; i < written.length; i++) {
                taken("write of " + written[i], x.write(sort, 1, written[i].longValue()));
                taken("read of " + written[i] + " in sort " + sort, x.read(sort, 1), read[i]);
                due("the place beside", x.read(sort, 0), 0);
            }
        }
        x.write(0, 0, Long.MIN_VALUE);
        due("in 8 bits", x.read(0, 0), 0);
        x.write(0, 0, Long.MAX_VALUE);
        due("in 8 bits", x.read(0, 0), -1);
    }

    private static void longTrays() {
        sentence(5, "so many numbers (at most 60; 5), all 0", null);
        for (int many : new int[] {0, 1, 59, 60}) {
            taken("tray of " + many, x.tray(1, 2, many));
            for (int place = 0; place < many; place++) {
                taken("read", x.read(1, place), 0);
                x.write(1, place, place + 1);
            }
            refused("read behind the last", x.read(1, many), 4);
            if (many > 0) {
                due("the last", x.read(1, many - 1), many);
            }
        }
        words = "A TRAY that was told is told anew";
        taken("tray", x.tray(1, 0, 60));
        due("0 again", x.read(1, 0) + x.read(1, 30) + x.read(1, 59), 0);
        x.write(1, 59, 255);
        due("8 bits now", x.read(1, 59), -1);
        refused("the others are missing", x.read(0, 0), 3);
        refused("the others are missing", x.read(2, 0), 3);
        refused("no longer one", x.tray(1, 3, 61), 5);
        due("as it was", x.read(1, 59), -1);
    }

    private static void pours() {
        sentence(8, "come to place j on of another one, or the same, as they were", null);
        for (int i = 0; i <= 6; i++) {
            for (int j = 0; j <= 6; j++) {
                for (int many = 0; many <= 7; many++) {
                    pour(i, j, many);
                }
            }
        }
    }

    private static void pour(int i, int j, int many) {
        fresh(8, null);
        x.tray(0, 1, 6);
        x.tray(3, 1, 6);
        long[] due = new long[6];
        for (int k = 0; k < 6; k++) {
            x.write(0, k, 100 + k);
            x.write(3, k, 200 + k);
            due[k] = 200 + k;
        }
        boolean can = i + many <= 6 && j + many <= 6;
        due("pour of " + many + " from " + i + " to " + j, x.pour(0, i, 3, j, many), can);
        for (int k = 0; k < many && can; k++) {
            due[j + k] = 100 + i + k;
        }
        for (int k = 0; k < 6; k++) {
            due("place " + k, x.read(3, k), due[k]);
            due("place " + k + " of the first", x.read(0, k), 100 + k);
            due[k] = 100 + k;
        }
        due("pour onto itself of " + many + " from " + i + " to " + j, x.pour(0, i, 0, j, many), can);
        for (int k = 0; k < many && can; k++) {
            due[j + k] = 100 + i + k;
        }
        for (int k = 0; k < 6; k++) {
            due("place " + k, x.read(0, k), due[k]);
        }
    }

    // ---- bread

    /** Makes a CELL so, which was WHOLE. */
    private static void become(int copy, int cx, int cy, int how) {
        if (how > 0) {
            answer(x, CALLS[how - 1], copy, cx, cy);
        }
    }

    private static void stateChanges() {
        int[][] then = {{1, NO, 1, 1}, {2, NO, NO, NO}, {3, NO, 3, NO}, {NO, NO, 0, 0}};
        int[] crumbs = {2, 1, 4, 5, 3};
        for (int call = 0; call < 4; call++) {
            sentence(promiseOf(CALLS[call]), "a CELL of a COPY is WHOLE (0), BITTEN (1), MOULDY (2) or HONEYED (3)",
                "wide 5;row prhwf;row prhwf;rise 0 1 by 9;rise 1 1 by 9;rise 2 1 by 9;rise 3 1 by 9;rise 4 1 by 9;copies 3;");
            for (int how = 0; how < 4; how++) {
                for (int cell = 0; cell < 10; cell++) {
                    int cx = cell % 5;
                    int cy = cell / 5;
                    x.mark();
                    become(1, cx, cy, how);
                    int eaten = x.many(4);
                    int next = then[call][how];
                    int its = crumbs[cx] + 9 * cy;
                    String said = CALLS[call] + " of a cell that is " + how;
                    due(said, answer(x, CALLS[call], 1, cx, cy), next == NO ? call == 0 ? NONE : 0 : call == 0 ? its : 1);
                    status(said, next == NO ? 9 : 0);
                    due("becomes", x.cell(1, cx, cy), next == NO ? how : next);
                    due("the other copies' cell", x.cell(0, cx, cy) + x.cell(2, cx, cy), 0);
                    due("eaten", x.many(4) - eaten, call == 0 && next != NO ? its : 0);
                    due("all others are whole", x.count(1, 0), (next == NO ? how : next) == 0 ? 10 : 9);
                    x.back();
                }
                fresh(promise, "wide 5;row prhwf;row prhwf;rise 0 1 by 9;rise 1 1 by 9;rise 2 1 by 9;rise 3 1 by 9;rise 4 1 by 9;copies 3;");
            }
        }
    }

    private static final int NO = -1;

    private static void crumbsStay() {
        sentence(13, "CRUMBS of all COPIES' CELLS that are not BITTEN and those EATEN together change by STEAM alone",
            "wide 4;row prhw;row fwhr;rise 3 0 by 9;copies 3;company ann at 0 0 to 0 1;company bob at 3 1 to 1 1 by 1;");
        int all = x.many(5);
        due("all", all, 3 * (2 + 1 + 4 + 14 + 3 + 5 + 4 + 1));
        IntConsumer[] calls = {i -> x.bite(0, 3, 0), i -> x.mould(1, 1, 1), i -> x.honey(1, 1, 1), i -> x.clean(1, 1, 1),
            i -> x.mould(1, 1, 1), i -> x.bite(1, 1, 1), i -> x.bite(1, 1, 1), i -> x.march(0), i -> x.march(1), i -> x.hand(0, 2),
            i -> x.mark(), i -> x.run(77), i -> x.arrivals(0, 5, 20), i -> x.bite(2, 2, 1)};
        ordersTaken("mouse 2 by 12;mould 0;honey 0 at 0 0;mouse 0 by 5;march ann;home;bite 1 at 0 0;", 7);
        for (IntConsumer call : calls) {
            call.accept(0);
            due("together", x.many(4) + x.many(5), all);
        }
        words = "it is as if those that were BITTEN and are not then were baked anew";
        int eaten = x.many(4);
        x.back();
        due("taken back", x.many(4) + x.many(5), all);
        x.bite(0, 0, 1);
        eaten = x.many(4);
        int left = x.many(5);
        int bitten0 = crumbsBitten(0);
        int bitten1 = crumbsBitten(1);
        x.steam(0, 1);
        due("eaten", x.many(4), eaten);
        due("left", x.many(5), left + bitten1 - bitten0);
        x.steam(2, 1);
        x.steam(2, 0);
        due("all copies are as the third", x.many(5), all - 3 * crumbsBitten(2));
        due("eaten", x.many(4), eaten);
        x.bite(0, 0, 1);
        due("what was baked anew is eaten once more", x.many(4), eaten + 3);
    }

    private static int crumbsBitten(int copy) {
        int sum = 0;
        for (int cell = 0; cell < 8; cell++) {
            sum += x.cell(copy, cell % 4, cell / 4) == 1 ? x.ground(cell % 4, cell / 4, 3) : 0;
        }
        return sum;
    }

    private static void eatenUp() {
        sentence(18, "all CELLS of a COPY are BITTEN", LARGEST + "company a at 0 0 to 0 0;company b at 0 0 to 1 0;company c at 0 0 to 0 0 by 1;");
        for (int cell = 0; cell < 48; cell++) {
            due("bite", x.bite(0, cell % 8, cell / 8), 2);
        }
        due("eaten", x.many(4), 96);
        due("left", x.many(5), 192);
        due("none whole", x.count(0, 0), 0);
        due("all bitten", x.count(0, 1), 48);
        due("unlike", x.unlike(0, 1), 48);
        due("one heap", x.hole(0), 48);
        due("reach: those who are there", x.reach(), 5);
        due("most worth of another copy", x.mostWorth(1, 0), 1);
        refused("most worth", x.mostWorth(0, 0), 8);
        refused("supper", x.supper(0, 1, 0), 9);
        due("nothing fits nothing but nothing", x.halves(0, 0, 0), 6);
        due("halves", x.halves(0, 1, 0), 0);
        due("steam of all", x.steam(1, 0), 48);
        due("all is whole", x.count(0, 0), 48);
        due("eaten", x.many(4), 96);
        due("left", x.many(5), 288);
    }

    private static void steams() {
        sentence(22, "all its CELLS are as the other's", "wide 4;row pppp;row pppp;row pppp;row pppp;copies 3;");
        for (int cell = 0; cell < 16; cell++) {
            become(0, cell % 4, cell / 4, cell % 4);
            become(1, cell % 4, cell / 4, cell / 4);
        }
        int eaten = x.many(4);
        due("unlike", x.unlike(0, 1), 12);
        due("unlike the whole", x.unlike(0, 2), 12);
        taken("steam", x.steam(0, 1), 12);
        for (int cell = 0; cell < 16; cell++) {
            due("of the second", x.cell(1, cell % 4, cell / 4), cell % 4);
            due("of the first", x.cell(0, cell % 4, cell / 4), cell % 4);
            due("of the third", x.cell(2, cell % 4, cell / 4), 0);
        }
        for (int how = 0; how < 4; how++) {
            due("so many", x.count(1, how), 4);
            due("so many of the third", x.count(2, how), how == 0 ? 16 : 0);
        }
        due("eaten", x.many(4), eaten);
        taken("none changed", x.steam(1, 0), 0);
        taken("the first off the third", x.steam(2, 0), 12);
        taken("the third off the second", x.steam(1, 2), 12);
        due("the third", x.count(2, 3), 4);
        due("a copy is like itself", x.unlike(2, 2), 0);
    }

    private static void biteAll(int copy, String... rows) {
        for (int y = 0; y < rows.length; y++) {
            for (int cx = 0; cx < rows[y].length(); cx++) {
                if (rows[y].charAt(cx) == '#') {
                    x.bite(copy, cx, y);
                }
            }
        }
    }

    private static void heap(int due, String... rows) {
        fresh(25, LARGEST);
        biteAll(2, rows);
        taken("hole", x.hole(2), due);
        due("another copy", x.hole(0), 0);
    }

    private static void heaps() {
        words = "The largest heap of BITTEN CELLS that lie beside, above, below one another";
        heap(0, "");
        heap(1, "#");
        heap(1, ".......#", "#.......");
        heap(1, "#.#.#.#.", ".#.#.#.#", "#.#.#.#.", ".#.#.#.#", "#.#.#.#.", ".#.#.#.#");
        heap(2, "##.#.#.#");
        heap(2, "#", "#", ".", "#");
        heap(8, "########");
        heap(6, "#", "#", "#", "#", "#", "#");
        heap(9, ".......#", "########", "........", "#.......");
        heap(26, "########", ".......#", "########", "#.......", "########");
        heap(23, "########", ".......#", "########", "#.......", "#####...");
        heap(28, "#.###.##", "#.#.#.#.", "#.#.#.#.", "#.#.#.#.", "#.#.#.#.", "###.###.");
        heap(3, "##.##...", "#.....#.", "......#.");
        heap(4, "##......", "........", ".##.....", ".##.....", "....###.");
        heap(48, "########", "########", "########", "########", "########", "########");
        heap(24, "########", "########", "########", "........", "########", "########");
        fresh(25, "wide 3;row ppp;row ppp;");
        biteAll(0, "..#", "#..");
        due("the end of a row is not beside the beginning of the next", x.hole(0), 1);
        x.mould(0, 0, 0);
        x.honey(0, 1, 1);
        due("mouldy and honeyed ones are none", x.hole(0), 1);
        words = "a LAND of few CELLS behind one with many";
        fresh(25, LARGEST);
        biteAll(0, "########", "########");
        landTaken("wide 2;row pp;", 0);
        due("no hole", x.hole(0), 0);
        due("none bitten", x.count(0, 1), 0);
        due("all whole", x.count(0, 0), 2);
    }

    private static void shown() {
        sentence(16, "WHOLE: what the ground has; BITTEN: nothing; MOULDY: a forest; HONEYED: the enemy", null);
        int[] crumbs = {2, 1, 4, 5, 3};
        for (int letter = 0; letter < 5; letter++) {
            for (int how = 0; how < 4; how++) {
                for (int rise = 0; rise <= 9; rise += 9) {
                    char c = "prhwf".charAt(letter);
                    landTaken("wide 3;row r" + c + "r;rise 1 0 by " + rise + ";copies 2;company a at 0 0 to 2 0 by 1;", 1);
                    become(1, 1, 0, how);
                    taken("shows of " + c + " that is " + how, x.shows(1, 1, 0), how == 0 ? letter : 4 + how);
                    due("the other copy shows", x.shows(0, 1, 0), letter);
                    due("the ground stays", x.ground(1, 0, 0), letter);
                    int cost = how == 2 ? 5 + rise : how != 0 || letter == 3 ? NO : crumbs[letter] + rise;
                    promise = 26;
                    due("the way through it", x.way(0), cost == NO ? NONE : cost + 1);
                    promise = 30;
                    due("truly", x.truly(0), cost == NO || letter == 3 ? NONE : crumbs[letter] + rise + 1);
                    promise = 31;
                    due("best", x.best(0), letter == 3 ? NONE : crumbs[letter] + rise + 1);
                    promise = 16;
                }
            }
        }
    }

    // ---- WAYS

    /** The WAY of COMPANY 0 as letters: right, down, left, up. */
    private static String wayOf(int company) {
        if (x.way(company) == NONE) {
            return "none";
        }
        StringBuilder steps = new StringBuilder();
        int cx = x.wayAt(0, 0);
        int cy = x.wayAt(0, 1);
        due("it begins where the company is", cx == x.company(company, 0) && cy == x.company(company, 1), true);
        for (int k = 1; x.wayAt(k, 0) != NONE; k++) {
            int nx = x.wayAt(k, 0);
            int ny = x.wayAt(k, 1);
            steps.append(nx > cx ? 'r' : ny > cy ? 'd' : nx < cx ? 'l' : 'u');
            due("one step", Math.abs(nx - cx) + Math.abs(ny - cy), 1);
            cx = nx;
            cy = ny;
        }
        due("it ends where it would come", cx == x.company(company, 2) && cy == x.company(company, 3), true);
        return steps.toString();
    }

    private static void way(String land, int cost, String steps) {
        landTaken(land, 1);
        due("way by '" + land + "'", x.way(0), cost);
        String got = wayOf(0);
        due("steps " + got + " by '" + land + "', due are " + steps, got.equals(steps), true);
    }

    private static void firstSteps() {
        sentence(26, "of these the first step by step (right, down: y more, left, up)", null);
        String plains = "wide 3;row ppp;row ppp;row ppp;company a at ";
        way(plains + "1 1 to 2 2;", 4, "rd");
        way(plains + "1 1 to 2 0;", 4, "ru");
        way(plains + "1 1 to 0 2;", 4, "dl");
        way(plains + "1 1 to 0 0;", 4, "lu");
        way(plains + "0 0 to 2 2;", 8, "rrdd");
        way(plains + "0 2 to 2 0;", 8, "rruu");
        way(plains + "2 0 to 0 2;", 8, "ddll");
        way(plains + "2 2 to 0 0;", 8, "lluu");
        String round = "wide 3;row ppp;row pwp;row ppp;company a at ";
        way(round + "1 0 to 1 2;", 8, "rddl");
        way(round + "1 2 to 1 0;", 8, "ruul");
        way(round + "0 1 to 2 1;", 8, "drru");
        way(round + "2 1 to 0 1;", 8, "dllu");
        way(round + "1 1 to 0 0;", 4, "lu");
        words = "step by step: the second step of those with the same first";
        way("wide 4;row pppp;row pppp;row pppp;company a at 0 0 to 3 2;", 10, "rrrdd");
        way("wide 4;row ppwp;row pppp;row pppp;company a at 0 0 to 3 2;", 10, "rdrrd");
        way("wide 4;row pwpp;row pppp;row pppw;company a at 0 0 to 2 2;", 8, "drrd");
        way("wide 4;row pwpp;row ppwp;row pppp;company a at 0 0 to 3 2;", 10, "drdrr");
    }

    private static void fewestCells() {
        sentence(26, "the cheapest row of CELLS; of several that with the fewest CELLS", null);
        way("wide 3;row rpp;row pwp;row rwr;row rrr;company a at 0 1 to 2 1;", 7, "urrd");
        way("wide 3;row rpp;row pwp;row rwr;row rrr;rise 1 0 by 1;company a at 0 1 to 2 1;", 7, "ddrruu");
        way("wide 3;row rrr;row php;row rrr;company a at 0 1 to 2 1;", 5, "drru");
        way("wide 3;row rpr;row php;row rpr;company a at 0 1 to 2 1;", 6, "rr");
        way("wide 3;row rrr;row pfp;row rrr;company a at 0 1 to 2 1;", 5, "rr");
        way("wide 3;row rrr;row pfp;row rrr;rise 1 1 by 1;company a at 0 1 to 2 1;", 5, "drru");
        way("wide 2;row pp;row rr;company a at 0 0 to 1 0;", 2, "r");
        way("wide 3;row ppp;row rrr;company a at 0 0 to 2 0;", 4, "rr");
        way("wide 7;row wprrppw;row rrrpwrw;company a at 5 1 to 2 1;", 7, "ullld");
        way("wide 7;row hhffhrh;row ffprprr;company a at 0 1 to 6 0;", 14, "rrrrrru");
        taken("8 more round the first ford", x.worth(0, 1, 1), 8);
        taken("that is the most", x.mostWorth(0, 1), 8);
        words = "as long a row as there may be";
        way("wide 8;row rrrrrrrr;row wwwwwwwr;row rrrrrrrr;row rwwwwwww;row rrrrrrrr;row wwwwwwww;company a at 0 0 to 7 4;", 25,
            "rrrrrrrddlllllllddrrrrrrr");
        way("wide 8;row rwrrrwrr;row rwrwrwrw;row rwrwrwrw;row rwrwrwrw;row rwrwrwrw;row rrrwrrrw;company a at 0 0 to 7 0;", 27,
            "dddddrruuuuurrdddddrruuuuur");
        way("wide 8;row pppppppp;row wwwwwwwp;row pppppppp;row pwwwwwww;row pppppppp;row wwwwwwww;rise 1 0 by 9;rise 7 4 by 9;"
            + "company a at 0 0 to 7 4;", 68, "rrrrrrrddlllllllddrrrrrrr");
    }

    private static void endsOfWays() {
        sentence(26, "where it is need not be WHOLE; One that is where it would come is there: a WAY of no steps, no cost", null);
        for (int how = 0; how < 4; how++) {
            for (char letter : "prhwf".toCharArray()) {
                landTaken("wide 3;row " + letter + "p" + letter + ";company a at 0 0 to 1 0;company b at 0 0 to 0 0;company c at 1 0 to 2 0;", 3);
                become(0, 0, 0, how);
                become(0, 2, 0, how);
                due("from a cell that is " + how, x.way(0), 2);
                due("its march", x.truly(0), 2);
                due("one that is there", x.way(1), 0);
                due("no more cells", x.wayAt(0, 0) * 10 + x.wayAt(1, 0), NONE);
                due("it is there by the ground", x.best(1), 0);
                due("truly", x.truly(1), 0);
                due("its march", x.march(1), 0);
                due("is not stuck", x.stuck(), 0);
                boolean can = how == 2 || how == 0 && letter != 'w';
                due("into a cell that is " + how, x.way(2) != NONE, can);
                due("reach", x.reach(), can ? 7 : 3);
            }
        }
        sentence(31, "the cheapest row of CELLS by the ground itself", "wide 2;row rp;row pw;company a at 1 0 to 0 1;");
        taken("by way of the first cell", x.best(0), 3);
        x.bite(0, 0, 0);
        refused("by its copy there is no way", x.way(0), 9);
        taken("by the ground there is", x.best(0), 3);
        sentence(26, "9: it has none", null);
        landTaken("wide 3;row pwp;row wwp;company a at 0 0 to 2 0;company b at 2 0 to 2 1;", 2);
        refused("way", x.way(0), 9);
        taken("way", x.way(1), 2);
        words = "The k-th CELL of the WAY by way() latest with STATUS 0";
        refused("way", x.way(0), 9);
        taken("wayAt", x.wayAt(1, 1), 1);
        refused("wayAt", x.wayAt(2, 1), 8);
    }

    private static void marches() {
        sentence(28, "as far as the ground lets it: ahead of water it stops (STUCK)", null);
        for (int water = 0; water <= 5; water++) {
            StringBuilder row = new StringBuilder("pfrhpp");
            row.setCharAt(water, 'w');
            landTaken("wide 6;row " + row + ";rise 2 0 by 1;company a at 0 0 to 5 0;", 1);
            x.mould(0, water, 0);
            x.mould(0, 3, 0);
            int[] costs = {0, 3, 2, 4, 2, 2};
            int spent = 0;
            for (int cell = 1; cell < (water == 0 ? 6 : water); cell++) {
                spent += costs[cell];
            }
            taken("march", x.march(0), water == 0 ? 5 : water - 1);
            taken("stuck", x.stuck(), water == 0 ? 0 : 1);
            due("where it is", x.company(0, 0), water == 0 ? 5 : water - 1);
            due("what the ground costs", x.company(0, 5), spent);
            taken("once more", x.march(0), 0);
            taken("stuck", x.stuck(), water == 0 ? 0 : 1);
            due("where it is", x.company(0, 0), water == 0 ? 5 : water - 1);
            due("no cost more", x.company(0, 5), spent);
        }
        sentence(29, "1 if the latest march() with STATUS 0 got STUCK, else 0", "wide 3;row pwp;row wwp;company a at 0 0 to 2 0;company b at 2 0 to 2 1;");
        refused("none yet", x.stuck(), 8);
        refused("no way", x.march(0), 9);
        refused("none yet", x.stuck(), 8);
        taken("b", x.march(1), 1);
        taken("b", x.stuck(), 0);
        x.mould(0, 1, 0);
        taken("a", x.march(0), 0);
        taken("a", x.stuck(), 1);
        refused("no such one", x.march(2), 2);
        taken("a still", x.stuck(), 1);
        x.clean(0, 1, 0);
        refused("no way", x.march(0), 9);
        taken("a still", x.stuck(), 1);
        taken("b", x.march(1), 0);
        taken("b", x.stuck(), 0);

        sentence(17, "all its marches' cost", "wide 3;row ppp;row rrr;company a at 0 0 to 2 0;");
        ordersTaken("march a;home;march a;home;", 4);
        taken("march", x.march(0), 2);
        due("cost", x.company(0, 5), 4);
        x.run(0);
        due("cost", x.company(0, 5), 8);
        x.run(0);
        due("cost", x.company(0, 5), 16);
    }

    private static void reaches() {
        sentence(33, "the set of COMPANIES (1 for COMPANY 0 ..) that have a WAY", null);
        landTaken("wide 2;row pp;", 0);
        taken("no companies", x.reach(), 0);
        StringBuilder text = new StringBuilder("wide 6;row pppppp;row rrrrrr;");
        for (int i = 0; i < 6; i++) {
            text.append("company ").append("abcdef".charAt(i)).append(" at ").append(i).append(" 0 to ").append(i).append(" 1;");
        }
        landTaken(text.toString(), 6);
        for (int i = 0; i < 6; i++) {
            taken("all but those ahead", x.reach(), 63 & -1 << i);
            x.honey(0, i, 1);
        }
        taken("none", x.reach(), 0);
        for (int i = 0; i < 6; i++) {
            x.clean(0, i, 1);
            taken("one alone", x.reach(), 1 << i);
            x.bite(0, i, 1);
        }
        words = "hand(): A COMPANY has another COPY";
        landTaken("wide 2;row pp;copies 3;company a at 0 0 to 1 0;company b at 0 0 to 1 0 by 2;", 2);
        x.bite(0, 1, 0);
        x.honey(1, 1, 0);
        for (int copy = 0; copy < 3; copy++) {
            promise = 32;
            taken("hand", x.hand(0, copy));
            due("its copy", x.company(0, 4), copy);
            due("the other one's", x.company(1, 4), 2);
            due("reach", x.reach(), copy == 2 ? 3 : 2);
        }
    }

    private static void seen() {
        sentence(34, "CELLS of a COMPANY's WAY that are HONEYED on a COPY (where it is and comes, too)",
            "wide 4;row pppp;row wwww;copies 2;company a at 0 0 to 3 0;company b at 1 0 to 1 0;");
        taken("none", x.seen(0, 1), 0);
        for (int cell = 0; cell < 4; cell++) {
            x.honey(1, cell, 0);
            x.honey(1, cell, 1);
            taken("so many", x.seen(0, 1), cell + 1);
            taken("on its own copy", x.seen(0, 0), 0);
            taken("one that is there", x.seen(1, 1), cell >= 1 ? 1 : 0);
        }
        x.honey(0, 0, 0);
        taken("where it is, on its own copy", x.seen(0, 0), 1);
        x.mould(0, 1, 0);
        taken("mould is none", x.seen(0, 0), 1);
        x.bite(1, 2, 0);
        taken("a bitten one is none", x.seen(0, 1), 3);
        x.hand(0, 1);
        refused("by that copy it has no way", x.seen(0, 0), 9);
    }

    // ---- what to eat

    private static void supper(int cells, int... due) {
        for (int what = 0; what < due.length; what++) {
            taken("supper of " + cells + ", what " + what, x.supper(0, cells, what), due[what]);
        }
    }

    private static void suppers() {
        sentence(35, "so many CELLS of a COPY are to be BITTEN that are not yet, none in which a COMPANY by it is, or would come", null);
        landTaken("wide 3;row ppp;company a at 0 0 to 2 0;", 1);
        supper(1, 0, 0, 1);
        refused("too few", x.supper(0, 2, 0), 9);
        landTaken("wide 2;row pp;row pp;company a at 0 0 to 1 0;", 1);
        supper(1, 1, 2, 2);
        supper(2, 1, 2, 2, 3);
        x.bite(0, 0, 1);
        supper(1, 1, 2, 3);
        refused("too few", x.supper(0, 2, 0), 9);
        landTaken("wide 3;row ppp;row ppp;copies 2;company a at 0 0 to 1 1 by 1;", 1);
        supper(1, 0, 0, 0);
        supper(2, 0, 0, 0, 1);
        landTaken("wide 2;row pp;", 0);
        supper(1, 0, 0, 0);
        supper(2, 0, 0, 0, 1);
        words = "MOULDY, HONEYED and water CELLS are not BITTEN";
        landTaken("wide 4;row pppw;company a at 0 0 to 0 0;", 1);
        x.mould(0, 1, 0);
        x.honey(0, 2, 0);
        supper(2, 1, 0, 1, 2);
        x.bite(0, 1, 0);
        supper(2, 1, 0, 2, 3);
        words = "those by which the most COMPANIES by it still have a WAY";
        landTaken("wide 5;row ppppp;row wwwww;company a at 0 0 to 2 0;company b at 3 0 to 4 0;", 2);
        supper(1, 2, 6, 5);
        supper(2, 2, 6, 5, 6);
        landTaken("wide 4;row pppp;row hhhh;company a at 0 0 to 2 0;company b at 0 0 to 3 0;company c at 3 1 to 3 0;", 3);
        supper(1, 3, 12, 4);
        supper(2, 3, 12, 4, 5);
        words = "of these whose WAYS together cost the least";
        landTaken("wide 3;row ppp;row rrr;company a at 0 0 to 2 0;", 1);
        supper(1, 1, 4, 3);
        landTaken("wide 3;row pfp;row rrr;rise 1 0 by 1;company a at 0 0 to 2 0;", 1);
        supper(1, 1, 5, 1);
        supper(2, 1, 6, 3, 4);
        words = "each two CELLS by themselves";
        landTaken("wide 4;row rrpr;row pprr;company a at 0 0 to 2 1;", 1);
        supper(1, 1, 4, 2);
        supper(2, 1, 4, 2, 3);
        words = "of several the first by CELLS (by numbers: WIDE times y and x)";
        landTaken("wide 3;row ppp;row ppp;row ppp;company a at 1 1 to 1 1;company b at 0 0 to 0 0;", 2);
        supper(1, 2, 0, 1);
        supper(2, 2, 0, 1, 2);
        x.bite(0, 1, 0);
        x.bite(0, 0, 1);
        supper(2, 2, 0, 2, 5);
        x.bite(0, 2, 0);
        x.bite(0, 2, 1);
        x.bite(0, 0, 2);
        x.bite(0, 1, 2);
        supper(1, 2, 0, 8);
        landTaken("wide 8;" + times(6, "row pppppppp;") + "company a at 0 0 to 7 5;", 1);
        supper(1, 1, 24, 1);
        supper(2, 1, 24, 1, 2);
        words = "a COMPANY that had no WAY has none";
        landTaken("wide 4;row pwpp;company a at 0 0 to 2 0;company b at 3 0 to 2 0;", 2);
        supper(1, 1, 2, 1);
    }

    private static void cut(int due, String land) {
        landTaken(land, 1);
        taken("cut by '" + land + "'", x.cut(0), due);
    }

    private static void cuts() {
        sentence(36, "the fewest CELLS (none in which the COMPANY is or would come) of its COPY that need be BITTEN", null);
        cut(1, "wide 3;row ppp;company a at 0 0 to 2 0;");
        cut(2, "wide 3;row ppp;row ppp;company a at 0 0 to 2 0;");
        cut(2, "wide 3;row ppp;row ppp;row ppp;company a at 0 0 to 2 2;");
        cut(3, "wide 3;row ppp;row ppp;row ppp;company a at 0 1 to 2 1;");
        cut(3, "wide 5;row ppppp;row ppppp;row ppppp;row ppppp;row ppppp;company a at 2 2 to 4 2;");
        cut(4, "wide 5;row ppppp;row ppppp;row ppppp;row ppppp;row ppppp;company a at 1 1 to 3 3;");
        cut(2, "wide 2;row pp;row pp;company a at 0 0 to 1 1;");
        cut(1, "wide 2;row pp;row pw;row pp;company a at 1 0 to 1 2;");
        cut(1, "wide 3;row pwp;row ppp;company a at 0 0 to 2 0;");
        words = "one CELL that all rows go through parts them all";
        cut(1, "wide 3;row ppw;row ppp;row wpp;company a at 0 0 to 2 2;");
        cut(1, "wide 5;row wpwpw;row ppppp;row wpwpw;company a at 0 1 to 4 1;");
        cut(2, "wide 3;row rpw;row prr;row rrp;company a at 1 2 to 0 1;");
        words = "whatever it costs to come into a CELL";
        for (String row : new String[] {"row rrr;", "row hhh;", "row fff;"}) {
            cut(3, "wide 3;" + times(3, row) + "rise 1 1 by 9;company a at 0 1 to 2 1;");
        }
        cut(2, "wide 3;row wfp;row pfr;row phr;company a at 2 0 to 0 1;");
        words = "by what its COPY SHOWS";
        landTaken("wide 3;row pwp;row ppp;copies 2;company a at 0 0 to 2 0 by 1;", 1);
        x.bite(0, 1, 1);
        taken("another copy does not matter", x.cut(0), 1);
        x.mould(1, 1, 0);
        taken("a forest is a way more", x.cut(0), 2);
        x.honey(1, 1, 0);
        taken("the enemy is none", x.cut(0), 1);
        x.honey(1, 1, 1);
        refused("no way", x.cut(0), 9);
        words = "it is beside where it would come, or there";
        for (String to : new String[] {"2 1", "1 2", "0 1", "1 0", "1 1"}) {
            landTaken("wide 3;row ppp;row ppp;row ppp;company a at 1 1 to " + to + ";", 1);
            refused("cut", x.cut(0), 9);
        }
        for (String to : new String[] {"2 2", "0 2", "0 0", "2 0"}) {
            landTaken("wide 3;row ppp;row ppp;row ppp;company a at 1 1 to " + to + ";", 1);
            taken("across", x.cut(0), 2);
        }
        words = "the end of a row is not beside the beginning of the next";
        cut(2, "wide 3;row ppp;row ppp;company a at 2 0 to 0 1;");
    }

    private static void worths() {
        sentence(37, "a WAY that there is no more then: 100 more than it costs now", null);
        StringBuilder six = new StringBuilder("wide 3;row ppp;copies 2;");
        for (char c = 'a'; c <= 'f'; c++) {
            six.append("company ").append(c).append(" at 0 0 to 2 0;");
        }
        landTaken(six.toString(), 6);
        for (int left = 6; left >= 0; left--) {
            promise = 37;
            taken("worth", x.worth(0, 1, 0), 100 * left);
            taken("where they would come", x.worth(0, 2, 0), 100 * left);
            taken("where they are", x.worth(0, 0, 0), 0);
            taken("on the other copy", x.worth(1, 1, 0), 100 * (6 - left));
            if (left > 0) {
                promise = 38;
                taken("most worth", x.mostWorth(0, 0), 1);
                taken("its worth", x.mostWorth(0, 1), 100 * left);
                x.hand(left - 1, 1);
            }
        }
        promise = 38;
        taken("with none by it the first", x.mostWorth(0, 0), 0);
        taken("worth nothing", x.mostWorth(0, 1), 0);
        promise = 37;
        words = "by how much WAYS of all COMPANIES by it together cost more if it were BITTEN";
        landTaken("wide 3;row pfp;row rrr;rise 1 0 by 9;company a at 0 0 to 2 0;company b at 1 1 to 1 1;", 2);
        taken("a detour of 9 more", x.worth(0, 1, 1), 14 - 5);
        taken("not on its way", x.worth(0, 1, 0), 0);
        taken("the first of the roads", x.worth(0, 0, 1), 9);
        words = "each CELL by itself, whatever the others are worth";
        landTaken("wide 5;row rrrrr;row hhhhh;company a at 0 0 to 4 0;", 1);
        for (int cell = 1; cell < 4; cell++) {
            taken("round one road", x.worth(0, cell, 0), 15 - 4);
        }
        promise = 38;
        taken("all are worth as much", x.mostWorth(0, 1), 11);
        taken("the first", x.mostWorth(0, 0), 1);
        landTaken("wide 3;row pfp;row rrr;rise 1 0 by 9;company a at 0 0 to 2 0;company b at 1 1 to 1 1;", 2);
        words = "of several the first (not those in which a COMPANY by it is or would come)";
        taken("most worth", x.mostWorth(0, 0), 3);
        taken("its worth", x.mostWorth(0, 1), 9);
        landTaken("wide 4;row pppp;row wwwp;company a at 0 0 to 3 1;company b at 2 0 to 3 0;company c at 1 0 to 1 0;", 3);
        refusedOrTaken(4);
        x.bite(0, 0, 1);
        refusedOrTaken(5);
        x.bite(0, 1, 1);
        x.bite(0, 2, 1);
        refused("no such CELL", x.mostWorth(0, 0), 8);
        words = "a MOULDY, a HONEYED, a water CELL may be worth something, or nothing";
        landTaken("wide 3;row pwp;company a at 0 0 to 2 0;", 1);
        taken("water", x.worth(0, 1, 0), 0);
        x.mould(0, 1, 0);
        taken("a forest", x.worth(0, 1, 0), 100);
        x.honey(0, 1, 0);
        taken("the enemy", x.worth(0, 1, 0), 0);
        x.bite(0, 1, 0);
        refused("bitten", x.worth(0, 1, 0), 9);
    }

    private static void refusedOrTaken(int cell) {
        taken("most worth", x.mostWorth(0, 0), cell);
        taken("its worth", x.mostWorth(0, 1), 0);
    }

    // ---- crumbs, halves, mice

    private static void told(long due, int bitten, int... numbers) {
        fresh(39, LARGEST);
        for (int cell = 0; cell < bitten; cell++) {
            x.bite(2, cell % 8, cell / 8);
        }
        for (int sort = 0; sort < 4; sort++) {
            x.tray(sort, sort, 5 + sort);
            for (int i = 0; i < 5; i++) {
                x.write(sort, i, numbers[i]);
            }
            for (int i = 5; i < 5 + sort; i++) {
                x.write(sort, i, 99);
            }
            taken("told by sort " + sort, x.told(2, sort), due);
        }
    }

    private static void told() {
        words = "in how many ways they can have been so (999,999,999,999 at most)";
        told(1, 0, 0, 0, 0, 0, 0);
        told(1, 1, 0, 0, 0, 0, 1);
        told(1, 48, 48, 0, 0, 0, 0);
        told(1, 48, 0, 0, 0, 0, 48);
        told(48, 48, 47, 0, 0, 0, 1);
        told(2, 2, 1, 1, 0, 0, 0);
        told(120, 5, 1, 1, 1, 1, 1);
        told(113_400, 10, 2, 2, 2, 2, 2);
        told(999_456_057_600L, 24, 12, 3, 3, 3, 3);
        told(999_456_057_600L, 24, 3, 3, 12, 3, 3);
        told(999_999_999_999L, 40, 24, 15, 1, 0, 0);
        told(999_999_999_999L, 40, 1, 0, 15, 0, 24);
        told(999_999_999_999L, 48, 10, 10, 10, 9, 9);
        words = "not as many as are BITTEN: 0 ways";
        told(0, 0, 1, 0, 0, 0, 0);
        told(0, 1, 0, 0, 0, 0, 0);
        told(0, 5, 1, 1, 1, 1, 2);
        told(0, 5, 1, 1, 1, 1, 0);
        told(0, 48, 48, 48, 48, 48, 48);
        told(0, 0, 48, 48, 48, 48, 48);
        told(0, 47, 48, 0, 0, 0, 0);
    }

    private static void seams() {
        sentence(40, "the left half of one COPY (as many columns as half of WIDE, rounded up)", null);
        for (int wide = 2; wide <= 8; wide++) {
            for (int rows = 1; rows <= 6; rows++) {
                landTaken("wide " + wide + ";" + times(rows, "row " + times(wide, "p") + ";") + "copies 2;", 0);
                int half = (wide + 1) / 2;
                for (int y = 0; y < rows; y++) {
                    x.honey(0, half - 1, y);
                    x.honey(1, half, y);
                }
                taken("wide " + wide + ", all fit", x.halves(0, 1, 0), rows);
                taken("unmoved", x.halves(0, 1, 1), 0);
                for (int y = 0; y < rows; y++) {
                    x.clean(1, half, y);
                }
                taken("none fit", x.halves(0, 1, 0), 0);
                taken("unmoved", x.halves(0, 1, 1), 0);
                taken("the left of the second and the right of the first", x.halves(1, 0, 0), rows);
            }
        }
    }

    private static void moves() {
        sentence(40, "moved by m (-2 to 2) rows down; of several the nearest to 0, of two the one below 0", null);
        int[] order = {0, -1, 1, -2, 2};
        for (int left = 0; left < 6; left++) {
            for (int rights = 1; rights < 64; rights++) {
                if (Integer.bitCount(rights) > 2) {
                    continue;
                }
                fresh(40, "wide 4;" + times(6, "row ppww;") + "copies 2;");
                x.honey(0, 1, left);
                for (int y = 0; y < 6; y++) {
                    if ((rights >> y & 1) != 0) {
                        x.honey(1, 2, y);
                    }
                }
                int due = 9;
                for (int m : order) {
                    int row = left - m;
                    due = due == 9 && row >= 0 && row < 6 && (rights >> row & 1) != 0 ? m : due;
                }
                taken("how many fit", x.halves(0, 1, 0), due == 9 ? 0 : 1);
                taken("the move", x.halves(0, 1, 1), due == 9 ? 0 : due);
            }
        }
        words = "the most that FIT";
        fresh(40, "wide 2;row pp;row rr;row hh;row ff;row pp;copies 2;");
        taken("unmoved all fit", x.halves(0, 1, 0), 5);
        taken("unmoved", x.halves(0, 1, 1), 0);
        fresh(40, "wide 2;row hp;row hr;row pw;row fh;row hh;copies 2;");
        taken("two rows down", x.halves(0, 1, 0), 2);
        taken("two rows down", x.halves(0, 1, 1), 2);
    }

    private static void fits() {
        sentence(40, "FIT, if both SHOW the same, or each SHOWS a road or a ford", null);
        for (char left : "prhwf".toCharArray()) {
            for (char right : "prhwf".toCharArray()) {
                for (int hows = 0; hows < 16; hows++) {
                    landTaken("wide 2;row " + left + right + ";rise 0 0 by 3;copies 2;", 0);
                    become(0, 0, 0, hows & 3);
                    become(1, 1, 0, hows >> 2);
                    int shownLeft = (hows & 3) == 0 ? "prhwf".indexOf(left) : 4 + (hows & 3);
                    int shownRight = hows >> 2 == 0 ? "prhwf".indexOf(right) : 4 + (hows >> 2);
                    boolean paved = (shownLeft == 1 || shownLeft == 4) && (shownRight == 1 || shownRight == 4);
                    taken(left + " that is " + (hows & 3) + " beside " + right + " that is " + (hows >> 2), x.halves(0, 1, 0),
                        paved || shownLeft == shownRight ? 1 : 0);
                }
            }
        }
    }

    private static void mice() {
        sentence(41, "walks so many nights (0 to 12); where there is no CELL it stays", null);
        fraction("0 nights", x.odds(0, 0, 0, 0, 0), 1, 1);
        fraction("0 nights", x.odds(0, 0, 1, 0, 0), 0, 1);
        long all = 1;
        long none = 1;
        for (int nights = 0; nights <= 12; nights++) {
            BigInteger over = BigInteger.valueOf(all - none);
            long divisor = over.gcd(BigInteger.valueOf(all)).longValue();
            fraction(nights + " nights", x.odds(1, 0, 0, 0, nights), (all - none) / divisor, all / divisor);
            fraction("where it is", x.odds(1, 0, 1, 0, nights), 1, 1);
            if (nights <= 8) {
                promise = 42;
                fraction("the mean of " + nights + " nights", x.mean(0, 0, nights), (2 * all - none) / gcd(2 * all - none, all),
                    all / gcd(2 * all - none, all));
                promise = 41;
            }
            all *= 4;
            none *= 3;
        }
        landTaken("wide 8;" + times(6, "row pwhwfwrw;"), 0);
        fraction("one night too few", x.odds(0, 0, 7, 5, 11), 0, 1);
        fraction("12 nights", x.odds(0, 0, 7, 5, 12), 99, 2097152);
        fraction("12 nights back", x.odds(7, 5, 0, 0, 12), 99, 2097152);
        fraction("12 nights across", x.odds(0, 5, 7, 0, 12), 99, 2097152);
        int[][] beside = {{1, 0}, {0, 1}, {-1, 0}, {0, -1}};
        for (int[] to : beside) {
            fraction("one night", x.odds(3, 3, 3 + to[0], 3 + to[1], 1), 1, 4);
        }
        fraction("the end of a row and the beginning of the next", x.odds(7, 0, 0, 1, 6), 0, 1);
        words = "the mean of how many CELLS a MOUSE eats";
        promise = 42;
        for (int[] corner : new int[][] {{0, 0}, {7, 0}, {0, 5}, {7, 5}}) {
            fraction("a corner", x.mean(corner[0], corner[1], 1), 3, 2);
        }
        fraction("an edge", x.mean(3, 0, 1), 7, 4);
        fraction("an edge", x.mean(7, 3, 1), 7, 4);
        fraction("within", x.mean(3, 3, 1), 2, 1);
        fraction("within, two nights", x.mean(3, 3, 2), 11, 4);
    }

    private static long gcd(long a, long b) {
        return BigInteger.valueOf(a).gcd(BigInteger.valueOf(b)).longValue();
    }
}
