/** How ORDERS run: each STEP and what is MISSED, tests, loops, the 300, draws; seeds of arrivals; MARKS. */
public final class BreadMapCourses extends Checks {
    private static final String LAND = "wide 3;row prp;row wfh;copies 2;company ann at 0 0 to 2 0;company bob at 2 1 to 0 1 by 1;"
        + "company cid at 1 1 to 1 1;";
    private static final String TWO = "wide 2;row pp;";
    private static final int[][] MOVES = {{1, 0}, {0, 1}, {-1, 0}, {0, -1}};

    public static void main(String[] args) {
        bites();
        moulds();
        honeys();
        steams();
        mice();
        marches();
        homes();
        eaten();
        arrives();
        crumbs();
        manyCrumbs();
        loops();
        stops();
        threeHundred();
        theNextIsLeft();
        seeds();
        latestRun();
        arrivals();
        marks();
        marksOfAll();
        tell();
    }

    /** ORDERS are run by a seed: how many STEPS, and what ran() tells. */
    private static void course(String text, int seed, int steps, int missed, int bitten, int stuck, int left) {
        feed(text);
        if (x.orders(text.length()) == NONE) {
            complain("'" + text + "' was not taken, fault " + x.fault(0) + " at " + x.fault(1));
            return;
        }
        taken("run of '" + text + "'", x.run(seed), steps);
        ran(text, missed, bitten, stuck, left);
    }

    private static void ran(String text, int missed, int bitten, int stuck, int left) {
        int[] due = {missed, bitten, stuck, left};
        int before = promise;
        promise = 44;
        for (int what = 0; what < 4; what++) {
            taken("ran(" + what + ") behind '" + text + "'", x.ran(what), due[what]);
        }
        promise = before;
    }

    // ---- STEPS

    private static void bites() {
        sentence(43, "bite: a CELL of a COPY; MISSED: a BITE where it is BITTEN", LAND);
        course("bite 1 at 2 1;", 0, 1, 0, 1, 0, 0);
        due("it is bitten", x.cell(1, 2, 1), 1);
        due("not that of the other copy", x.cell(0, 2, 1), 0);
        due("its crumbs", x.many(4), 4);
        course("bite 1 at 2 1;", 0, 1, 1, 0, 0, 0);
        due("its crumbs once", x.many(4), 4);
        x.mould(0, 0, 0);
        x.honey(0, 1, 0);
        course("bite 0 at 0 0;bite 0 at 1 0;bite 0 at 0 1;bite 0 at 0 1;bite 0 at 0 0;", 0, 5, 2, 3, 0, 0);
        due("crumbs", x.many(4), 4 + 2 + 1 + 5);
    }

    private static void moulds() {
        sentence(43, "mould: a CELL of a COPY by two draws (by WIDE, then by ROWS); MISSED: MOULD that can't be", null);
        for (int how = 0; how < 4; how++) {
            for (int seed = 0; seed < 10000; seed += 909) {
                fresh(43, "wide 5;row ppppp;row ppppp;row ppppp;copies 2;");
                Draws draws = new Draws(seed);
                int cx = draws.by(5);
                int cy = draws.by(3);
                if (how == 1) {
                    x.bite(1, cx, cy);
                } else if (how == 2) {
                    x.mould(1, cx, cy);
                } else if (how == 3) {
                    x.honey(1, cx, cy);
                }
                course("mould 1;", seed, 1, how == 0 ? 0 : 1, 0, 0, 0);
                due("the cell", x.cell(1, cx, cy), how == 0 ? 2 : how);
                due("no other one", x.count(1, 0), 14);
                due("no other copy", x.count(0, 0), 15);
            }
        }
    }

    private static void honeys() {
        sentence(43, "honey: a CELL of a COPY; MISSED: HONEY that can't be", LAND);
        course("honey 1 at 0 0;", 0, 1, 0, 0, 0, 0);
        due("honeyed", x.cell(1, 0, 0), 3);
        due("not that of the other copy", x.cell(0, 0, 0), 0);
        course("honey 1 at 0 0;", 0, 1, 1, 0, 0, 0);
        x.mould(1, 1, 0);
        course("honey 1 at 1 0;", 0, 1, 0, 0, 0, 0);
        due("honeyed", x.cell(1, 1, 0), 3);
        x.bite(1, 2, 0);
        course("honey 1 at 2 0;", 0, 1, 1, 0, 0, 0);
        due("bitten", x.cell(1, 2, 0), 1);
    }

    private static void steams() {
        sentence(43, "steam a to b: b off a; MISSED: a STEAM off itself", LAND);
        x.bite(0, 0, 0);
        x.honey(1, 1, 0);
        course("steam 0 to 0;steam 1 to 1;", 0, 2, 2, 0, 0, 0);
        due("as they were", x.cell(0, 0, 0) * 10 + x.cell(1, 1, 0), 13);
        course("steam 0 to 1;", 0, 1, 0, 0, 0, 0);
        due("as the first", x.cell(1, 0, 0) * 10 + x.cell(1, 1, 0), 10);
        due("the first as it was", x.cell(0, 0, 0) * 10 + x.cell(0, 1, 0), 10);
        course("steam 1 to 0;", 0, 1, 0, 0, 0, 0);
        due("eaten", x.many(4), 2);
    }

    private static void mice() {
        sentence(43, "mouse: it BITES each CELL in which it is, a draw by 4 each night (0 right, 1 down, 2 left, 3 up)", null);
        String[] lands = {TWO, "wide 8;" + times(6, "row pppppppp;") + "copies 3;", "wide 3;row ppp;row ppp;row ppp;row ppp;"};
        for (String land : lands) {
            for (int nights = 0; nights <= 12; nights++) {
                for (int seed : new int[] {0, 1, 4999, 9998, 9999, 77 * nights}) {
                    fresh(43, land);
                    mouse(x.many(0), x.many(1), x.many(2) - 1, nights, seed);
                }
            }
        }
    }

    private static void mouse(int wide, int rows, int copy, int nights, int seed) {
        Draws draws = new Draws(seed);
        int[][] cells = new int[rows][wide];
        int cx = draws.by(wide);
        int cy = draws.by(rows);
        cells[cy][cx] = 1;
        for (int night = 0; night < nights; night++) {
            int[] move = MOVES[draws.by(4)];
            cx = Math.max(0, Math.min(wide - 1, cx + move[0]));
            cy = Math.max(0, Math.min(rows - 1, cy + move[1]));
            cells[cy][cx] = 1;
        }
        int bitten = 0;
        for (int[] row : cells) {
            for (int how : row) {
                bitten += how;
            }
        }
        course("mouse " + copy + " by " + nights + ";", seed, 1, 0, bitten, 0, 0);
        for (int cell = 0; cell < wide * rows; cell++) {
            due("cell " + cell, x.cell(copy, cell % wide, cell / wide), cells[cell / wide][cell % wide]);
        }
        due("crumbs", x.many(4), 2 * bitten);
    }

    private static void marches() {
        sentence(43, "march: a COMPANY; MISSED: a march without a WAY", LAND);
        course("march ann;", 0, 1, 0, 0, 0, 0);
        due("ann", x.company(0, 0) * 10 + x.company(0, 1), 20);
        due("her cost", x.company(0, 5), 3);
        course("march cid;march ann;", 0, 2, 0, 0, 0, 0);
        course("march bob;", 0, 1, 1, 0, 0, 0);
        due("bob stays", x.company(1, 0), 2);
        x.mould(1, 0, 1);
        words = "marches that got STUCK";
        course("march bob;march bob;march bob;", 0, 3, 0, 0, 3, 0);
        due("bob goes as far as he can", x.company(1, 0) * 10 + x.company(1, 1), 11);
        due("his cost", x.company(1, 5), 3);
        words = "1 if the latest march() got STUCK: a march of ORDERS is none";
        promise = 29;
        refused("stuck", x.stuck(), 8);
        x.march(0);
        x.run(0);
        taken("stuck", x.stuck(), 0);
    }

    private static void homes() {
        sentence(43, "home: all COMPANIES are where they were told", LAND);
        x.march(0);
        x.hand(0, 1);
        x.bite(0, 0, 0);
        course("home;home;", 0, 2, 0, 0, 0, 0);
        due("ann is home", x.company(0, 0) * 10 + x.company(0, 1), 0);
        due("bob", x.company(1, 0) * 10 + x.company(1, 1), 21);
        due("the cost stays", x.company(0, 5), 3);
        due("the copy stays", x.company(0, 4), 1);
        due("the bread stays", x.cell(0, 0, 0), 1);
        due("eaten", x.many(4), 2);
    }

    // ---- tests

    private static void eaten() {
        sentence(43, "when eaten: that CELL is BITTEN", LAND);
        String text = "when eaten 1 at 2 1;home;end;";
        course(text, 0, 1, 0, 0, 0, 0);
        x.bite(0, 2, 1);
        course(text, 0, 1, 0, 0, 0, 0);
        x.mould(1, 2, 1);
        course(text, 0, 1, 0, 0, 0, 0);
        x.honey(1, 2, 1);
        course(text, 0, 1, 0, 0, 0, 0);
        x.bite(1, 2, 1);
        course(text, 0, 2, 0, 0, 0, 0);
        course("when eaten 0 at 0 0;home;home;end;bite 0 at 0 0;when eaten 0 at 0 0;home;home;end;", 0, 5, 0, 1, 0, 0);
    }

    private static void arrives() {
        sentence(43, "when arrives: that COMPANY is where it would come", LAND);
        course("when arrives cid;home;end;", 0, 2, 0, 0, 0, 0);
        course("when arrives ann;home;end;", 0, 1, 0, 0, 0, 0);
        course("when arrives ann;home;end;march ann;when arrives ann;stop;end;home;", 0, 4, 0, 0, 0, 0);
        course("when arrives bob;home;end;", 0, 1, 0, 0, 0, 0);
        course("when arrives ann;home;end;when arrives ann;home;end;", 0, 3, 0, 0, 0, 0);
    }

    private static void crumbs() {
        sentence(43, "crumbs: all that were EATEN; < or > or =", LAND);
        int[] bites = {0, 2, 3, 3 + 2};
        int[][] cells = {{0, 0}, {1, 0}, {2, 0}};
        for (int i = 0; i < bites.length; i++) {
            due("eaten", x.many(4), bites[i]);
            for (int n = Math.max(0, bites[i] - 1); n <= bites[i] + 1; n++) {
                course("when crumbs < " + n + ";home;end;", 0, bites[i] < n ? 2 : 1, 0, 0, 0, 0);
                course("when crumbs > " + n + ";home;end;", 0, bites[i] > n ? 2 : 1, 0, 0, 0, 0);
                course("when crumbs = " + n + ";home;end;", 0, bites[i] == n ? 2 : 1, 0, 0, 0, 0);
            }
            if (i < cells.length) {
                x.bite(i == 2 ? 1 : 0, cells[i][0], cells[i][1]);
            }
        }
    }

    private static void manyCrumbs() {
        sentence(43, "crumbs COMPARES NUMBER (0 to 9,999): more than that may be EATEN", "wide 8;" + times(6, "row wwwwwwww;") + "copies 2;");
        String feast = "loop 50;mouse 0 by 12;mouse 0 by 12;mouse 0 by 12;mouse 0 by 12;steam 1 to 0;end;";
        feed(feast);
        x.orders(feast.length());
        for (int turn = 0; turn < 4 && x.many(4) <= 10000; turn++) {
            taken("run", x.run(turn), 251);
        }
        due("more than 9,999 are eaten", x.many(4) > 10000, true);
        course("when crumbs > 9999;home;end;", 0, 2, 0, 0, 0, 0);
        course("when crumbs < 9999;home;end;", 0, 1, 0, 0, 0, 0);
        course("when crumbs = 9999;home;end;", 0, 1, 0, 0, 0, 0);
    }

    // ---- loops, the 300

    private static void loops() {
        sentence(43, "loop n (1 to 99): as often; when, loop count as one each time they are come to from ahead; end does not", TWO);
        for (int n : new int[] {1, 2, 3, 98, 99}) {
            course("loop " + n + ";home;end;", 0, 1 + n, 0, 0, 0, 0);
            course("loop " + n + ";end;", 0, 1, 0, 0, 0, 0);
            course("loop " + n + ";end;home;", 0, 2, 0, 0, 0, 0);
            course("loop " + n + ";when crumbs > 0;home;end;end;", 0, 1 + n, 0, 0, 0, 0);
            course("loop 2;loop " + n + ";home;end;end;", 0, 1 + 2 * (1 + n), 0, 0, 0, 0);
            course("loop " + n + ";loop 1;home;end;end;", 0, 1 + 2 * n, 0, 0, 0, 0);
        }
        course("loop 3;loop 4;loop 5;home;end;home;end;home;end;home;", 0, 1 + 3 * (1 + 4 * (1 + 5 + 1) + 1) + 1, 0, 0, 0, 0);
        course("loop 2;loop 3;end;loop 4;end;end;", 0, 1 + 2 * 2, 0, 0, 0, 0);
        course("loop 3;when crumbs = 0;bite 0 at 0 0;end;end;", 0, 1 + 3 + 1, 0, 1, 0, 0);
        course("loop 5;bite 0 at 1 0;end;", 0, 6, 4, 1, 0, 0);
        words = "a when that does not hold leaves all within it out";
        course("when crumbs = 0;loop 5;home;end;when crumbs = 4;home;end;end;home;", 0, 2, 0, 0, 0, 0);
        course("when crumbs = 4;when crumbs = 0;home;end;home;end;home;", 0, 4, 0, 0, 0, 0);
    }

    private static void stops() {
        sentence(44, "left to be done (by the 300 alone, not by stop)", TWO);
        course("stop;", 0, 1, 0, 0, 0, 0);
        course("stop;home;home;", 0, 1, 0, 0, 0, 0);
        course("home;stop;home;", 0, 2, 0, 0, 0, 0);
        course("loop 9;home;stop;home;end;home;", 0, 3, 0, 0, 0, 0);
        course("loop 9;loop 9;when crumbs = 0;stop;end;end;end;home;", 0, 4, 0, 0, 0, 0);
        course("when crumbs > 0;stop;end;home;", 0, 2, 0, 0, 0, 0);
        course("bite 0 at 0 0;stop;bite 0 at 1 0;", 0, 2, 0, 1, 0, 0);
        due("what is behind is not done", x.cell(0, 1, 0), 0);
    }

    private static void threeHundred() {
        sentence(43, "At most 300 STEPS", TWO);
        String many = "loop 99;home;home;home;end;";
        course(many, 0, 298, 0, 0, 0, 0);
        course(many + "home;", 0, 299, 0, 0, 0, 0);
        course(many + "home;home;", 0, 300, 0, 0, 0, 0);
        course(many + "home;home;home;", 0, 300, 0, 0, 0, 1);
        course(many + "home;home;bite 0 at 0 0;", 0, 300, 0, 0, 0, 1);
        due("the 301st is not done", x.cell(0, 0, 0), 0);
        course(many + "home;bite 0 at 0 0;home;", 0, 300, 0, 1, 0, 1);
        due("the 300th is done", x.cell(0, 0, 0), 1);
        course("loop 99;loop 99;home;end;end;", 0, 300, 0, 0, 0, 1);
        course("loop 99;bite 0 at 0 0;mould 0;steam 0 to 0;home;end;", 12, 300, 3 * 75 - mouldTaken(12), 0, 0, 1);
    }

    /** How many of the 75 moulds of the course above can be, where only the second CELL is WHOLE: 1 or none. */
    private static int mouldTaken(int seed) {
        Draws draws = new Draws(seed);
        int can = 0;
        for (int turn = 0; turn < 75; turn++) {
            can |= draws.by(2);
            draws.by(1);
        }
        return can;
    }

    private static void theNextIsLeft() {
        sentence(44, "1 if a STEP was left to be done (by the 300 alone, not by stop), else 0", TWO);
        String many = "loop 99;home;home;home;end;home;";
        course(many + "stop;home;", 0, 300, 0, 0, 0, 0);
        course(many + "home;stop;", 0, 300, 0, 0, 0, 1);
        course(many + "when crumbs > 0;home;end;", 0, 300, 0, 0, 0, 0);
        course(many + "when crumbs > 0;home;end;home;", 0, 300, 0, 0, 0, 1);
        course(many + "when crumbs = 0;home;end;", 0, 300, 0, 0, 0, 1);
        course(many + "when crumbs = 0;end;", 0, 300, 0, 0, 0, 0);
        course(many + "loop 9;end;", 0, 300, 0, 0, 0, 0);
        course(many + "loop 9;end;home;", 0, 300, 0, 0, 0, 1);
        course(many + "loop 9;home;end;", 0, 300, 0, 0, 0, 1);
        course(many + "home;loop 9;end;", 0, 300, 0, 0, 0, 1);
        course(many + "home;when crumbs > 0;end;", 0, 300, 0, 0, 0, 1);
        words = "the 300th is the last of a loop's last turn, or of another turn";
        course("home;loop 23;loop 3;home;home;home;end;home;home;end;", 0, 2 + 23 * 12, 0, 0, 0, 0);
        course("loop 23;loop 3;home;home;home;end;home;home;home;end;", 0, 300, 0, 0, 0, 0);
        course("loop 24;loop 3;home;home;home;end;home;home;home;end;", 0, 300, 0, 0, 0, 1);
        course("when crumbs = 0;loop 23;loop 3;home;home;home;end;home;home;home;end;end;", 0, 300, 0, 0, 0, 1);
    }

    // ---- seeds

    /** As the document tells them. */
    private static final class Draws {
        private long s;

        Draws(int seed) {
            s = seed;
        }

        int by(int n) {
            s = (s * 2837 + 10331) % 65536;
            return (int) (s / 8 % n);
        }
    }

    private static void seeds() {
        sentence(43, "s becomes what is left of s times 2,837 and 10,331 by 65,536; the draw is the rest of s by 8, rounded down, by n", null);
        for (int seed : new int[] {0, 1, 2, 3, 19, 20, 5000, 8191, 8192, 9998, 9999}) {
            fresh(43, "wide 7;row ppppppp;row ppppppp;row ppppppp;row ppppppp;row ppppppp;copies 2;");
            int[] cells = new int[35];
            Draws draws = new Draws(seed);
            int missed = 0;
            for (int turn = 0; turn < 60; turn++) {
                int cx = draws.by(7);
                int cell = draws.by(5) * 7 + cx;
                missed += cells[cell] == 0 ? 0 : 1;
                cells[cell] = 2;
            }
            course("loop 60;mould 1;end;", seed, 61, missed, 0, 0, 0);
            for (int cell = 0; cell < 35; cell++) {
                due("cell " + cell + " by seed " + seed, x.cell(1, cell % 7, cell / 7), cells[cell]);
            }
        }
        words = "each run begins with its seed";
        fresh(43, "wide 5;row ppppp;row ppppp;row ppppp;");
        course("mould 0;", 9999, 1, 0, 0, 0, 0);
        course("mould 0;", 9999, 1, 1, 0, 0, 0);
        words = "a STEP that needs no draw takes none";
        fresh(43, "wide 5;row ppppp;row ppppp;row ppppp;company a at 0 0 to 4 2;");
        course("bite 0 at 4 2;honey 0 at 3 2;home;march a;when crumbs > 9;end;loop 2;end;steam 0 to 0;mould 0;", 4321, 8, 2, 1, 0, 0);
        Draws draws = new Draws(4321);
        int cx = draws.by(5);
        due("the first draws are the mould's", x.cell(0, cx, draws.by(3)), 2);
    }

    private static void latestRun() {
        sentence(44, "Of run() latest with STATUS 0", LAND);
        course("bite 0 at 0 0;bite 0 at 0 0;", 0, 2, 1, 1, 0, 0);
        refused("run", x.run(10000), 5);
        refused("run", x.run(-1), 5);
        ran("a refused run", 1, 1, 0, 0);
        x.arrivals(0, 0, 3);
        ran("arrivals", 1, 1, 0, 0);
        taken("land", land(LAND), 3);
        refused("run", x.run(0), 8);
        ran("a land, and a run without orders", 1, 1, 0, 0);
        course("", 0, 0, 0, 0, 0, 0);
        words = "RUN by a seed: all is as it becomes by it, and stays so";
        course("bite 0 at 0 0;mouse 1 by 12;march ann;", 5, 3, 0, 1 + mouseBites(5), 0, 0);
        int eaten = x.many(4);
        due("eaten", eaten > 2, true);
        due("ann went", x.company(0, 0), 2);
        taken("once more", x.run(5), 3);
        due("nothing was left for the mouse, nor for the bite", x.many(4), eaten);
        ran("the second run", 1, 0, 0, 0);
    }

    private static int mouseBites(int seed) {
        Draws draws = new Draws(seed);
        int cx = draws.by(3);
        int cy = draws.by(2);
        int set = 1 << cy * 3 + cx;
        for (int night = 0; night < 12; night++) {
            int[] move = MOVES[draws.by(4)];
            cx = Math.max(0, Math.min(2, cx + move[0]));
            cy = Math.max(0, Math.min(1, cy + move[1]));
            set |= 1 << cy * 3 + cx;
        }
        return Integer.bitCount(set);
    }

    private static void arrivals() {
        sentence(45, "behind how many of so many seeds (1 to 20) from one on a COMPANY is where it would come",
            "wide 2;row pp;company a at 0 0 to 1 0;company b at 1 0 to 1 0;company c at 1 0 to 0 0;");
        ordersTaken("mouse 0 by 0;march a;", 2);
        for (int first : new int[] {0, 1, 5000, 9979, 9980}) {
            for (int many = 1; many <= 20; many++) {
                int arrived = 0;
                for (int seed = first; seed < first + many; seed++) {
                    arrived += new Draws(seed).by(2) == 0 ? 1 : 0;
                }
                int divisor = gcd(arrived, many);
                fraction("arrivals(0, " + first + ", " + many + ")", x.arrivals(0, first, many), arrived / divisor, many / divisor);
            }
            fresh(45, "wide 2;row pp;company a at 0 0 to 1 0;company b at 1 0 to 1 0;company c at 1 0 to 0 0;");
            ordersTaken("mouse 0 by 0;march a;", 2);
        }
        fraction("one who is there", x.arrivals(1, 0, 20), 1, 1);
        fraction("one who does not march", x.arrivals(2, 0, 20), 0, 1);
        fraction("the last seed", x.arrivals(1, 9999, 1), 1, 1);
        fraction("the last seeds", x.arrivals(1, 9980, 20), 1, 1);
        refused("one behind the last", x.arrivals(1, 9981, 20), 5);
        refused("one behind the last", x.arrivals(1, 10000, 1), 5);
        due("the fraction stays", x.top() * 10 + x.bottom(), 11);
        words = "all stays as it is";
        due("nothing was eaten", x.many(4), 0);
        due("a", x.company(0, 0), 0);
        due("cost", x.company(0, 5), 0);
        words = "each seed begins with all as it is now";
        x.bite(0, 1, 0);
        fraction("no way", x.arrivals(0, 0, 20), 0, 1);
        ordersTaken("", 0);
        fraction("no STEPS", x.arrivals(1, 0, 20), 1, 1);
        fraction("no STEPS", x.arrivals(0, 0, 20), 0, 1);
    }

    private static int gcd(int a, int b) {
        return b == 0 ? a : gcd(b, a % b);
    }

    // ---- MARKS

    private static void marks() {
        sentence(46, "MARKS, at most 3; all is taken back to the latest MARK, which is gone then", "wide 4;row pppp;");
        refused("none yet", x.back(), 8);
        for (int turn = 0; turn < 2; turn++) {
            for (int mark = 0; mark < 3; mark++) {
                x.bite(0, mark, 0);
                promise = 46;
                taken("mark", x.mark(), mark + 1);
            }
            x.bite(0, 3, 0);
            refused("a fourth", x.mark(), 7);
            due("all bitten", x.count(0, 1), 4);
            for (int mark = 2; mark >= 0; mark--) {
                promise = 47;
                taken("back", x.back(), mark);
                due("bitten", x.count(0, 1), mark + 1);
                due("eaten", x.many(4), 2 * (mark + 1));
            }
            refused("none is left", x.back(), 8);
            due("as at the first mark", x.count(0, 1), 1);
            landTaken("wide 4;row pppp;", 0);
        }
        words = "a MARK is kept as it is, whatever becomes of all behind it";
        taken("mark", x.mark(), 1);
        x.bite(0, 0, 0);
        taken("mark", x.mark(), 2);
        taken("back", x.back(), 1);
        x.bite(0, 1, 0);
        taken("mark", x.mark(), 2);
        x.bite(0, 2, 0);
        taken("back", x.back(), 1);
        due("two bites", x.count(0, 1), 2);
        taken("back", x.back(), 0);
        due("no bites", x.count(0, 1), 0);
    }

    private static void marksOfAll() {
        sentence(47, "the LAND with all that became of it, the ORDERS are kept as they are", LAND);
        ordersTaken("home;home;home;", 3);
        x.bite(0, 2, 1);
        x.mould(1, 0, 1);
        x.honey(0, 0, 1);
        x.march(0);
        x.hand(2, 1);
        taken("mark", x.mark(), 1);
        landTaken("wide 8;" + times(6, "row rrrrrrrr;") + "rise 0 0 by 9;copies 3;company zoe at 7 5 to 0 0 by 2;", 1);
        ordersTaken("march zoe;", 1);
        taken("mark", x.mark(), 2);
        taken("run", x.run(0), 1);
        landTaken("wide 2;row hh;", 0);
        taken("mark", x.mark(), 3);
        taken("back", x.back(), 2);
        due("wide", x.many(0), 2);
        taken("back", x.back(), 1);
        due("wide", x.many(0), 8);
        due("rows", x.many(1), 6);
        due("copies", x.many(2), 3);
        due("it rises", x.ground(0, 0, 2), 9);
        due("zoe", x.company(0, 0) * 10 + x.company(0, 1), 75);
        due("her cost", x.company(0, 5), 0);
        taken("her orders", x.run(0), 1);
        due("zoe", x.company(0, 0) * 10 + x.company(0, 1), 0);
        taken("back", x.back(), 0);
        due("many", x.many(0) * 1000 + x.many(1) * 100 + x.many(2) * 10 + x.many(3), 3223);
        due("does not rise", x.ground(0, 0, 2), 0);
        due("a hill", x.ground(2, 1, 0), 2);
        due("eaten", x.many(4), 4);
        due("bitten", x.cell(0, 2, 1), 1);
        due("mouldy", x.cell(1, 0, 1), 2);
        due("honeyed", x.cell(0, 0, 1), 3);
        due("ann", x.company(0, 0) * 100 + x.company(0, 5), 203);
        due("cid's copy", x.company(2, 4), 1);
        taken("the orders", x.run(0), 3);
        due("ann is home", x.company(0, 0), 0);
        words = "a NAME of the LAND that is taken back";
        ordersTaken("march ann;march bob;march cid;", 3);
        ordersFault("march ", "zoe;", 3);
        words = "TRAYS, the tape, the FRACTION, what fault() tells are no part of a MARK";
        fresh(47, LAND);
        x.mark();
        x.tray(0, 0, 1);
        x.write(0, 0, 9);
        x.odds(0, 0, 1, 0, 1);
        feed("home;");
        taken("back", x.back(), 0);
        due("the tray", x.read(0, 0), 9);
        due("the fraction", x.top() * 10 + x.bottom(), 14);
        taken("the tape", x.orders(20), 1);
        x.mark();
        ordersFault("", "x", 2);
        taken("back", x.back(), 0);
        due("the fault", x.fault(0), 2);
    }
}
