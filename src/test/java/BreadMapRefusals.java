import java.util.Arrays;
import java.util.List;
import java.util.Map;
import java.util.function.Consumer;

/**
 * ==== 5 of the document: each refused call with its STATUS, where several hold at once the first of the
 * row, and all that can be asked of the object as it was; and calls that only ask, which leave it so too.
 */
public final class BreadMapRefusals extends Checks {
    private static final int MIN = Integer.MIN_VALUE;
    private static final int MAX = Integer.MAX_VALUE;

    /** 4 wide, 2 rows, 2 copies; later on ann has a way, bob's leads into water, cid is there, dan has none. */
    private static final String LAND = "wide 4;row prpw;row phfp;rise 2 1 by 1;copies 2;company ann at 0 0 to 3 1;"
        + "company bob at 0 1 to 3 0 by 1;company cid at 1 0 to 1 0;company dan at 0 0 to 3 0;";
    private static final String ORDERS = "bite 1 at 1 0;bite 1 at 1 0;mould 1;when arrives ann;stop;end;home;";

    private static Consumer<BreadMap> setting;
    private static Map<String, String> asItWas;

    public static void main(String[] args) throws Exception {
        argumentsOutOfBounds();
        statesOfTrays();
        pours();
        bread();
        marches();
        eating();
        told();
        newObject();
        ordersThatAreNot();
        marks();
        tapes();
        faults();
        asking();
        behindRefused();
        tell();
    }

    /** Objects are made so from here on. */
    private static void set(Consumer<BreadMap> how) {
        setting = how;
        asItWas = Portrait.of(laid());
    }

    private static BreadMap laid() {
        BreadMap map = new BreadMap();
        setting.accept(map);
        return map;
    }

    private static void furnish(BreadMap m) {
        m.tray(0, 0, 5);
        m.write(0, 1, 1);
        m.write(0, 2, 1);
        m.tray(1, 0, 3);
        m.write(1, 2, -7);
        m.tray(2, 3, 4);
        m.write(2, 3, Long.MIN_VALUE);
        feed(m, LAND);
        m.land(LAND.length());
        m.mark();
        m.bite(0, 1, 1);
        m.mould(0, 0, 1);
        m.honey(0, 3, 0);
        m.mould(1, 3, 0);
        feed(m, ORDERS);
        m.orders(ORDERS.length());
        m.run(3);
        m.mark();
        m.way(0);
        m.march(1);
        m.odds(0, 0, 1, 0, 2);
        feed(m, "wide 2;row ph;");
    }

    private static void plain(BreadMap m, String land) {
        feed(m, land);
        m.land(land.length());
    }

    /** This call is refused so, and nothing else is other than it was, but for the parts that are named. */
    private static void no(int status, String call, long... args) {
        noBut(List.of(), status, call, args);
    }

    private static void noBut(List<String> changed, int status, String call, long... args) {
        BreadMap map = laid();
        promise = promiseOf(call);
        String said = call + Arrays.toString(args);
        due(said, answer(map, call, args), isYesOrNo(call) ? 0 : NONE);
        due("status() behind " + said, map.status(), status);
        compare(said, Portrait.of(map), changed);
    }

    /** This call is taken, and nothing is other than it was, but for the parts that are named. */
    private static void leaves(List<String> changed, String call, long... args) {
        BreadMap map = laid();
        promise = promiseOf(call);
        String said = call + Arrays.toString(args);
        answer(map, call, args);
        due("status() behind " + said, map.status(), 0);
        compare(said, Portrait.of(map), changed);
    }

    private static void compare(String said, Map<String, String> now, List<String> changed) {
        asked++;
        for (String part : now.keySet()) {
            if (!changed.contains(part) && !now.get(part).equals(asItWas.get(part))) {
                complain(said + " changed the " + part + ": " + asItWas.get(part) + " became " + now.get(part));
            }
        }
    }

    // ---- arguments, each at its bounds, one beside them and far from them

    /** What an argument may be, and the STATUS of one below and of one above. */
    private record Range(int least, int most, int below, int above) {
        Range(int least, int most, int status) {
            this(least, most, status, status);
        }

        long[] wrong() {
            return new long[] {least - 1L, most + 1L, MIN, MAX};
        }

        int statusOf(long value) {
            return value < least ? below : value > most ? above : 0;
        }
    }

    private static final Range TRAY = new Range(0, 3, 1);
    private static final Range SORT = new Range(0, 3, 1);
    private static final Range LENGTH = new Range(0, 60, 6, 5);
    private static final Range PLACE = new Range(0, 4, 4);
    private static final Range X = new Range(0, 3, 2);
    private static final Range Y = new Range(0, 1, 2);
    private static final Range COPY = new Range(0, 1, 2);
    private static final Range COMPANY = new Range(0, 3, 2);

    private static Range what(int most) {
        return new Range(0, most, 5);
    }

    private static void argumentsOutOfBounds() {
        words = "STATUS of a call is the first of these that holds";
        set(BreadMapRefusals::furnish);
        outOfBounds("tray", TRAY, SORT, LENGTH);
        outOfBounds("write", new Range(0, 0, 0, 0), PLACE, new Range(MIN, MAX, 0));
        outOfBounds("read", new Range(0, 0, 0, 0), PLACE);
        outOfBounds("land", new Range(0, 20, 5));
        outOfBounds("orders", new Range(0, 20, 5));
        outOfBounds("many", what(5));
        outOfBounds("ground", X, Y, what(3));
        outOfBounds("cell", COPY, X, Y);
        outOfBounds("shows", COPY, X, Y);
        outOfBounds("company", COMPANY, what(5));
        for (String call : List.of("bite", "mould", "honey", "clean", "worth")) {
            outOfBounds(call, COPY, X, Y);
        }
        outOfBounds("steam", COPY, COPY);
        outOfBounds("unlike", COPY, COPY);
        outOfBounds("count", COPY, what(3));
        outOfBounds("hole", COPY);
        for (String call : List.of("way", "march", "truly", "best", "cut")) {
            outOfBounds(call, COMPANY);
        }
        outOfBounds("wayAt", new Range(0, 4, 8), what(1));
        outOfBounds("hand", COMPANY, COPY);
        outOfBounds("seen", COMPANY, COPY);
        outOfBounds("supper", COPY, new Range(1, 2, 5), what(3));
        outOfBounds("mostWorth", COPY, what(1));
        outOfBounds("halves", COPY, COPY, what(1));
        outOfBounds("odds", X, Y, X, Y, what(12));
        outOfBounds("mean", X, Y, what(8));
        outOfBounds("run", what(9999));
        outOfBounds("ran", what(3));
        outOfBounds("arrivals", COMPANY, what(9999), new Range(1, 20, 5));
        for (long tray : new long[] {-1, 4, MIN, MAX}) {
            for (long place : new long[] {-1, 0, 5, MIN, MAX}) {
                no(1, "write", tray, place, 7);
                no(1, "read", tray, place);
            }
        }
    }

    /** Every way in which some of the arguments are wrong; and each argument at its two ends is not. */
    private static void outOfBounds(String call, Range... ranges) {
        long[] args = new long[ranges.length];
        spoil(call, ranges, args, 0);
        for (int i = 0; i < ranges.length; i++) {
            if (ranges[i].below == 0 && ranges[i].above == 0) {
                continue;
            }
            for (int end = 0; end < 2; end++) {
                for (int k = 0; k < ranges.length; k++) {
                    args[k] = ranges[k].least;
                }
                args[i] = end == 0 ? ranges[i].least : ranges[i].most;
                BreadMap map = laid();
                promise = promiseOf(call);
                answer(map, call, args);
                int status = map.status();
                due(call + Arrays.toString(args) + " is within bounds, status " + status, status != 0 && status != 8 && status != 9
                    && !(status == 5 && call.equals("steam")) && !(status == 10 && (call.equals("land") || call.equals("orders"))), false);
            }
        }
    }

    private static void spoil(String call, Range[] ranges, long[] args, int from) {
        if (from == ranges.length) {
            int first = 0;
            for (int i = 0; i < ranges.length; i++) {
                int status = ranges[i].statusOf(args[i]);
                first = status != 0 && (first == 0 || status < first) ? status : first;
            }
            if (first != 0) {
                no(first, call, args.clone());
            }
            return;
        }
        args[from] = ranges[from].least;
        spoil(call, ranges, args, from + 1);
        if (ranges[from].below != 0 || ranges[from].above != 0) {
            for (long wrong : ranges[from].wrong()) {
                args[from] = wrong;
                spoil(call, ranges, args, from + 1);
            }
        }
    }

    // ---- what the object is like

    private static void statesOfTrays() {
        words = "3 the TRAY is MISSING. 4 a place that the TRAY has not";
        set(BreadMapRefusals::furnish);
        for (long place : new long[] {0, -1, 1, 60, MIN, MAX}) {
            no(3, "write", 3, place, 7);
            no(3, "read", 3, place);
        }
        no(4, "write", 1, 3, 7);
        no(4, "read", 1, 3);
        no(4, "write", 2, 4, 7);
        no(4, "read", 2, 4);
        set(m -> {
            furnish(m);
            m.tray(3, 2, 60);
        });
        no(4, "write", 3, 60, 7);
        no(4, "read", 3, 60);
        set(m -> {
            furnish(m);
            m.tray(3, 2, 0);
        });
        words = "an empty TRAY has no place, but is not MISSING";
        no(4, "write", 3, 0, 7);
        no(4, "read", 3, 0);
        no(4, "pour", 3, 0, 3, 0, 1);
        no(4, "told", 0, 3);
    }

    /** The rows of pour() in their order, which is not that of the other calls. */
    private static int pourStatus(long from, long i, long to, long j, long many) {
        int[] lengths = {5, 3, 4};
        int[] sorts = {0, 0, 3};
        if (from < 0 || from > 3 || to < 0 || to > 3) {
            return 1;
        }
        if (from == 3 || to == 3) {
            return 3;
        }
        if (sorts[(int) from] != sorts[(int) to]) {
            return 11;
        }
        if (many < 0) {
            return 6;
        }
        return i < 0 || j < 0 || i + many > lengths[(int) from] || j + many > lengths[(int) to] ? 4 : 0;
    }

    private static void pours() {
        words = "1, 3 (either), 11, 6, 4, asked in this order";
        set(BreadMapRefusals::furnish);
        for (long from = -1; from <= 4; from++) {
            for (long to = -1; to <= 4; to++) {
                for (long i : new long[] {-1, 0, 3, MAX}) {
                    for (long j : new long[] {0, -1, 1, MIN, MAX}) {
                        for (long many : new long[] {-1, 0, 2, 3, 4, MIN, MAX}) {
                            int status = pourStatus(from, i, to, j, many);
                            if (status != 0) {
                                no(status, "pour", from, i, to, j, many);
                            }
                        }
                    }
                }
            }
        }
        no(1, "pour", MIN, 0, 0, 0, 1);
        no(1, "pour", 0, 0, MAX, 0, 1);
    }

    private static void bread() {
        words = "9 it can't be";
        set(BreadMapRefusals::furnish);
        no(8, "ground", 3, 0, 1);
        no(9, "bite", 0, 1, 1);
        no(9, "bite", 1, 1, 0);
        no(9, "mould", 0, 1, 1);
        no(9, "mould", 0, 0, 1);
        no(9, "mould", 0, 3, 0);
        no(9, "honey", 0, 1, 1);
        no(9, "honey", 0, 3, 0);
        no(9, "clean", 0, 0, 0);
        no(9, "clean", 0, 1, 1);
        no(9, "worth", 0, 1, 1);
        no(5, "steam", 0, 0);
        no(5, "steam", 1, 1);
        no(2, "steam", 2, 2);
        no(2, "steam", -1, -1);
    }

    private static void marches() {
        words = "9: it has none";
        set(BreadMapRefusals::furnish);
        no(9, "way", 3);
        no(9, "march", 3);
        no(9, "truly", 3);
        no(9, "seen", 3, 0);
        no(2, "seen", 3, 2);
        no(9, "cut", 3);
        no(9, "truly", 1);
        no(9, "best", 1);
        no(9, "best", 3);
        words = "it can't be cut off: it is beside where it would come, or there";
        no(9, "cut", 1);
        no(9, "cut", 2);
        words = "5: what; 8: none such";
        no(8, "wayAt", 5, 0);
        no(8, "wayAt", -1, 1);
        no(5, "wayAt", 5, 2);
        no(5, "wayAt", 0, -1);
    }

    private static void eating() {
        words = "8: one alone";
        set(BreadMapRefusals::furnish);
        no(8, "supper", 0, 1, 3);
        no(2, "supper", 2, 1, 3);
        no(2, "supper", 2, 3, 4);
        no(5, "supper", 0, 0, 3);
        no(5, "supper", 0, 3, 3);
        words = "9: too few CELLS";
        set(m -> plain(m, "wide 2;row pp;company a at 0 0 to 1 0;"));
        no(9, "supper", 0, 1, 0);
        no(9, "supper", 0, 1, 2);
        no(9, "supper", 0, 2, 0);
        no(9, "supper", 0, 2, 3);
        no(8, "supper", 0, 1, 3);
        no(5, "supper", 0, 0, 0);
        no(5, "supper", 0, 3, 0);
        no(5, "supper", 0, 2, 4);
        no(2, "supper", 1, 1, 0);
        no(8, "mostWorth", 0, 0);
        no(8, "mostWorth", 0, 1);
        no(5, "mostWorth", 0, 2);
        no(2, "mostWorth", 1, 2);
        no(9, "cut", 0);
        set(m -> plain(m, "wide 3;row ppp;company a at 0 0 to 1 0;"));
        no(9, "supper", 0, 2, 0);
        no(9, "supper", 0, 2, 2);
        no(8, "supper", 0, 1, 3);
        set(m -> {
            plain(m, "wide 2;row pp;");
            m.bite(0, 0, 0);
            m.bite(0, 1, 0);
        });
        no(9, "supper", 0, 1, 0);
        no(9, "supper", 0, 2, 1);
        no(8, "supper", 0, 1, 3);
        no(8, "mostWorth", 0, 0);
        no(9, "worth", 0, 1, 0);
        no(2, "worth", 1, 1, 0);
        no(2, "worth", 0, 1, 1);
    }

    private static void told() {
        words = "1; 2; 3; 4; 5: below 0, above 48";
        set(BreadMapRefusals::furnish);
        for (long copy : new long[] {0, 1, -1, 2, MIN, MAX}) {
            for (long tray : new long[] {-1, 4, MIN, MAX}) {
                no(1, "told", copy, tray);
            }
        }
        for (long copy : new long[] {-1, 2, MIN, MAX}) {
            for (long tray = 0; tray < 4; tray++) {
                no(2, "told", copy, tray);
            }
        }
        no(3, "told", 0, 3);
        no(4, "told", 0, 1);
        no(4, "told", 0, 2);
        for (int place = 0; place < 5; place++) {
            for (long number : new long[] {-1, 49, Long.MIN_VALUE, Long.MAX_VALUE}) {
                long at = place;
                set(m -> {
                    furnish(m);
                    m.tray(3, 3, 5);
                    m.write(3, (int) at, number);
                });
                no(5, "told", 0, 3);
                no(2, "told", 2, 3);
            }
        }
    }

    private static void newObject() {
        words = "8 there is none";
        set(m -> { });
        for (int tray = 0; tray < 4; tray++) {
            no(3, "read", tray, 0);
            no(3, "write", tray, 0, 1);
            no(3, "pour", tray, 0, tray, 0, 0);
            no(3, "told", 0, tray);
        }
        for (String call : List.of("way", "march", "truly", "best", "cut")) {
            no(2, call, 0);
        }
        no(2, "company", 0, 0);
        no(2, "hand", 0, 0);
        no(2, "seen", 0, 0);
        no(2, "arrivals", 0, 0, 1);
        no(2, "cell", 1, 0, 0);
        no(2, "ground", 2, 0, 0);
        no(2, "ground", 0, 1, 0);
        no(8, "wayAt", 0, 0);
        no(5, "wayAt", 0, 2);
        no(8, "stuck");
        no(8, "run", 0);
        no(8, "run", 9999);
        no(5, "run", -1);
        no(5, "run", 10000);
        for (int what = 0; what < 4; what++) {
            no(8, "ran", what);
        }
        no(5, "ran", -1);
        no(5, "ran", 4);
        no(8, "back");
        no(5, "land", 1);
        no(5, "land", -1);
        no(5, "orders", 1);
        no(5, "orders", -1);
    }

    private static void ordersThatAreNot() {
        words = "2; 5: the last above 9,999, too; 8";
        String land = "wide 2;row pp;company a at 0 0 to 1 0;";
        set(m -> plain(m, land));
        no(8, "arrivals", 0, 0, 1);
        no(8, "arrivals", 0, 9980, 20);
        no(5, "arrivals", 0, 9981, 20);
        no(5, "arrivals", 0, 9999, 2);
        no(5, "arrivals", 0, 0, 0);
        no(5, "arrivals", 0, 0, 21);
        no(5, "arrivals", 0, -1, 1);
        no(5, "arrivals", 0, MAX, 20);
        no(2, "arrivals", 1, 0, 21);
        no(2, "arrivals", 1, 0, 1);
        no(8, "run", 0);
        no(5, "run", 10000);
        words = "there are no ORDERS";
        set(m -> {
            plain(m, land);
            feed(m, "march a;");
            m.orders(8);
            m.run(1);
            plain(m, land);
        });
        no(8, "run", 0);
        no(8, "arrivals", 0, 0, 1);
        words = "5: the last above 9,999, too";
        set(BreadMapRefusals::furnish);
        for (int many = 2; many <= 20; many++) {
            no(5, "arrivals", 0, 10001 - many, many);
        }
        no(5, "arrivals", 0, MAX, MAX);
        no(5, "arrivals", 0, MIN, MIN);
        no(5, "arrivals", 0, 9999, MIN);
        words = "8: there was none";
        set(m -> {
            plain(m, land);
            m.march(1);
            m.run(10000);
            m.bite(0, 1, 0);
            m.march(0);
            m.way(0);
        });
        no(8, "stuck");
        no(8, "ran", 0);
        no(8, "wayAt", 0, 0);
    }

    private static void marks() {
        words = "7 one too many";
        set(m -> {
            furnish(m);
            m.bite(0, 2, 0);
            m.mark();
            m.bite(0, 2, 1);
        });
        no(7, "mark");
        words = "8: there is none";
        set(m -> {
            furnish(m);
            m.back();
            m.back();
            m.bite(0, 2, 0);
        });
        no(8, "back");
    }

    private static void tapes() {
        words = "NONE if there would be more than 900";
        BreadMap map = fullTape();
        Map<String, String> full = Portrait.of(fullTape());
        promise = promiseOf("feed");
        map.many(9);
        due("feed of 20 more", map.feed(1, 2, 3, 4, 5), NONE);
        due("feed() has no STATUS", map.status(), 5);
        asItWas = full;
        compare("feed of 20 more", Portrait.of(map), List.of());

        words = "5: above 300, too";
        set(m -> {
            furnish(m);
            for (int i = 0; i < 15; i++) {
                feed(m, "                    ");
            }
        });
        no(5, "orders", 301);
        no(5, "orders", 320);
        no(5, "orders", 321);
        no(5, "orders", MAX);
        no(5, "orders", MIN);
        no(5, "land", 321);
    }

    private static BreadMap fullTape() {
        BreadMap map = new BreadMap();
        for (int i = 0; i < 45; i++) {
            feed(map, i == 0 ? "wide 2;row pr;" : "rise 1 0 by " + i % 10 + ";");
        }
        return map;
    }

    private static void faults() {
        words = "with 10 the tape, and what fault() tells";
        String[] lands = {"", "wide", "wide 9;", "wide 5;row ppppp;row hhhhh;rise 4 1 by 9;copies 3;company zoe at 4 1 to 0 0 by 2;copies 3;",
            "wide 2;row pp;company x at 0 0 to 1 0;company x"};
        String[] orders = {"home", "home;home;stop;end;", "bite 0 at 0 0;march zoe;", "mouse 1 by 3;loop 2;home;"};
        for (String text : lands) {
            set(m -> {
                furnish(m);
                m.land(0);
                feed(m, text);
            });
            noBut(List.of("tape", "fault"), 10, "land", text.length());
        }
        for (String text : orders) {
            set(m -> {
                furnish(m);
                m.land(0);
                feed(m, text);
            });
            noBut(List.of("tape", "fault"), 10, "orders", text.length());
        }
        words = "The first n bytes of the tape (which is empty then";
        for (String call : List.of("land", "orders")) {
            fresh(promiseOf(call), null);
            feed("wide 2;row pp;wide 2;row pp;wide 2;row pp;");
            refused(call, answer(x, call, 13), 10);
            due("feed behind " + call, x.feed(0, 0, 0, 0, 0), 20);
        }
    }

    // ---- calls that only ask

    private static void asking() {
        words = "what only asks leaves all as it is";
        set(BreadMapRefusals::furnish);
        List<String> nothing = List.of();
        for (int what = 0; what < 6; what++) {
            leaves(nothing, "many", what);
            leaves(nothing, "company", 1, what);
        }
        for (int what = 0; what < 4; what++) {
            leaves(nothing, "ground", 2, 1, what);
            leaves(nothing, "count", 0, what);
            leaves(nothing, "supper", 0, 2, what);
            leaves(nothing, "ran", what);
        }
        leaves(nothing, "supper", 1, 1, 2);
        for (int what = 0; what < 2; what++) {
            leaves(nothing, "mostWorth", 0, what);
            leaves(nothing, "mostWorth", 1, what);
            leaves(nothing, "halves", 0, 1, what);
            leaves(nothing, "wayAt", 4, what);
        }
        leaves(nothing, "read", 0, 4);
        leaves(nothing, "cell", 1, 3, 1);
        leaves(nothing, "shows", 1, 3, 1);
        leaves(nothing, "unlike", 0, 1);
        leaves(nothing, "hole", 0);
        leaves(List.of("way"), "way", 1);
        leaves(nothing, "way", 0);
        leaves(nothing, "stuck");
        leaves(nothing, "truly", 0);
        leaves(nothing, "best", 0);
        leaves(nothing, "reach");
        leaves(nothing, "seen", 0, 1);
        leaves(nothing, "cut", 0);
        leaves(nothing, "worth", 0, 2, 0);
        leaves(nothing, "worth", 0, 3, 1);
        leaves(nothing, "told", 0, 0);
        leaves(List.of("fraction"), "odds", 0, 0, 3, 1, 12);
        leaves(List.of("fraction"), "mean", 0, 0, 8);
        leaves(List.of("fraction"), "arrivals", 0, 17, 20);
        leaves(List.of("fraction"), "arrivals", 2, 9999, 1);
        words = "none at all are poured";
        leaves(nothing, "pour", 0, 0, 1, 0, 0);
        words = "status(), fault(), top(), bottom() have no STATUS";
        for (String call : List.of("status", "top", "bottom")) {
            BreadMap map = laid();
            promise = promiseOf(call);
            map.many(9);
            answer(map, call);
            answer(map, "fault", 0);
            answer(map, "fault", 9);
            due("status() behind " + call, map.status(), 5);
            compare(call, Portrait.of(map), nothing);
        }
    }

    // ---- calls that are taken where the one ahead was not

    private static void behindRefused() {
        words = "STATUS 0 else";
        set(BreadMapRefusals::furnish);
        fine("tray", 3, 3, 60);
        fine("write", 0, 4, -1);
        fine("read", 1, 2);
        fine("pour", 0, 0, 1, 0, 3);
        fine("land", 14);
        fine("orders", 0);
        fine("many", 5);
        fine("ground", 0, 0, 1);
        fine("cell", 0, 1, 1);
        fine("shows", 0, 1, 1);
        fine("company", 0, 5);
        fine("bite", 0, 0, 0);
        fine("mould", 0, 0, 0);
        fine("honey", 0, 0, 0);
        fine("clean", 0, 3, 0);
        fine("steam", 0, 1);
        fine("unlike", 0, 0);
        fine("count", 0, 0);
        fine("hole", 0);
        fine("way", 2);
        fine("wayAt", 0, 0);
        fine("march", 2);
        fine("stuck");
        fine("truly", 2);
        fine("best", 2);
        fine("hand", 0, 0);
        fine("reach");
        fine("seen", 2, 0);
        fine("supper", 0, 1, 1);
        fine("cut", 0);
        fine("worth", 0, 0, 0);
        fine("mostWorth", 0, 1);
        fine("told", 0, 0);
        fine("halves", 0, 1, 1);
        fine("odds", 0, 0, 3, 1, 0);
        fine("mean", 0, 0, 0);
        fine("run", 0);
        fine("ran", 0);
        fine("arrivals", 0, 0, 1);
        fine("mark");
        fine("back");
    }

    private static void fine(String call, long... args) {
        BreadMap map = laid();
        promise = promiseOf(call);
        map.many(9);
        due("status() behind many(9)", map.status(), 5);
        answer(map, call, args);
        due("status() behind " + call + Arrays.toString(args) + ", which is taken", map.status(), 0);
    }
}
