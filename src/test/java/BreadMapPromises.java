import java.lang.reflect.Constructor;
import java.lang.reflect.Field;
import java.lang.reflect.Method;
import java.lang.reflect.Modifier;
import java.util.TreeSet;

/** For each promise of the document what it says, its edges and wrong inputs, with answers found by hand. */
public final class BreadMapPromises extends Checks {
    /** 4 wide, 3 rows, 2 copies; ann by 0, bob by 1, cid who is there. */
    private static final String SMALL = "wide 4;row prrp;row hwfp;row pppr;rise 3 0 by 2;copies 2;"
        + "company ann at 0 0 to 3 2;company bob at 0 2 to 3 0 by 1;company cid at 1 2 to 1 2;";
    private static final String PLAINS = "wide 5;row ppppp;row ppppp;row ppppp;row ppppp;row ppppp;copies 3;"
        + "company mid at 2 2 to 0 0;company far at 0 0 to 4 4;company bye at 0 0 to 0 0;";

    public static void main(String[] args) throws Exception {
        face();
        newObject();
        trays();
        tape();
        landTexts();
        ordersTexts();
        asking();
        bread();
        ways();
        marches();
        eating();
        crumbsAndHalves();
        mice();
        running();
        draws();
        arriving();
        marks();
        keptAcrossLands();
        tell();
    }

    private static void face() {
        promise = 0;
        TreeSet<String> names = new TreeSet<>();
        int methods = 0;
        for (Method m : BreadMap.class.getDeclaredMethods()) {
            if (Modifier.isPublic(m.getModifiers())) {
                names.add(m.getName());
                methods++;
            } else {
                due("a method that is not private: " + m.getName(), Modifier.isPrivate(m.getModifiers()), true);
            }
        }
        due("public methods", methods, 46);
        String all = "[arrivals, back, best, bite, bottom, cell, clean, company, count, cut, fault, feed, ground, halves, hand,"
            + " hole, honey, land, many, march, mark, mean, mostWorth, mould, odds, orders, pour, ran, reach, read, run, seen,"
            + " shows, status, steam, stuck, supper, told, top, tray, truly, unlike, way, wayAt, worth, write]";
        due("their names are those of the document", names.toString().equals(all), true);
        for (Field f : BreadMap.class.getDeclaredFields()) {
            due("the field " + f.getName() + " is private", Modifier.isPrivate(f.getModifiers()), !f.getName().equals("NONE"));
        }
        due("constructors", BreadMap.class.getDeclaredConstructors().length, 1);
        for (Constructor<?> c : BreadMap.class.getDeclaredConstructors()) {
            due("a public constructor without parameters", Modifier.isPublic(c.getModifiers()) && c.getParameterCount() == 0, true);
        }
        due("final", Modifier.isFinal(BreadMap.class.getModifiers()), true);
        due("NONE", BreadMap.NONE, -1);
    }

    private static void newObject() {
        fresh(1, null);
        due("status()", x.status(), 0);
        due("top()", x.top(), 0);
        due("bottom()", x.bottom(), 1);
        due("fault(0)", x.fault(0), NONE);
        due("fault(1)", x.fault(1), NONE);
        for (int tray = 0; tray < 4; tray++) {
            refused("read of a missing tray", x.read(tray, 0), 3);
        }
        int[] many = {2, 1, 1, 0, 0, 4};
        for (int what = 0; what < 6; what++) {
            due("many(" + what + ")", x.many(what), many[what]);
        }
        due("ground", x.ground(1, 0, 0), 0);
        due("cell", x.cell(0, 1, 0), 0);
        refused("run", x.run(0), 8);
        refused("back", x.back(), 8);
        refused("stuck", x.stuck(), 8);
        refused("ran", x.ran(0), 8);
        refused("wayAt", x.wayAt(0, 0), 8);
        due("feed on an empty tape", x.feed(0, 0, 0, 0, 0), 20);

        fresh(2, null);
        refused("many(6)", x.many(6), 5);
        x.feed(0, 0, 0, 0, 0);
        x.fault(0);
        x.fault(7);
        x.top();
        x.bottom();
        status("calls that have none", 5);
        x.many(0);
        status("many(0)", 0);

        fresh(3, null);
        fraction("odds", x.odds(0, 0, 1, 0, 1), 1, 4);
        refused("odds", x.odds(0, 0, 1, 0, 13), 5);
        due("top() is as it was", x.top(), 1);
        promise = 4;
        due("bottom() is as it was", x.bottom(), 4);
        fraction("odds of 0 by 1", x.odds(0, 0, 1, 0, 0), 0, 1);
    }

    private static void trays() {
        fresh(5, null);
        refused("tray -1", x.tray(-1, 0, 1), 1);
        refused("tray 4", x.tray(4, 0, 1), 1);
        refused("sort 4", x.tray(0, 4, 1), 1);
        refused("sort -1", x.tray(0, -1, 61), 1);
        refused("61 numbers", x.tray(0, 0, 61), 5);
        refused("-1 numbers", x.tray(0, 0, -1), 6);
        refused("the tray is missing still", x.read(0, 0), 3);
        due("60 numbers", x.tray(0, 3, 60), true);
        status("tray", 0);
        due("the last one", x.read(0, 59), 0);
        refused("the one behind", x.read(0, 60), 4);
        x.write(0, 0, 7);
        due("no numbers", x.tray(0, 0, 0), true);
        refused("none of them", x.read(0, 0), 4);
        x.tray(0, 3, 2);
        due("all are 0 anew", x.read(0, 0), 0);

        promise = 6;
        long[] cut = {(byte) 0x1234567890abcdefL, (short) 0x1234567890abcdefL, (int) 0x1234567890abcdefL, 0x1234567890abcdefL};
        for (int sort = 0; sort < 4; sort++) {
            x.tray(sort, sort, 3);
            due("write", x.write(sort, 2, 0x1234567890abcdefL), true);
            status("write", 0);
            due("sort " + sort, x.read(sort, 2), cut[sort]);
        }
        refused("write to tray 4", x.write(4, 0, 1), 1);
        refused("write to tray -1", x.write(-1, 0, 1), 1);
        refused("write to place 3", x.write(0, 3, 1), 4);
        refused("write to place -1", x.write(0, -1, 1), 4);
        x.write(0, 0, 128);
        due("128 in 8 bits", x.read(0, 0), -128);
        x.write(1, 0, 32768);
        due("32768 in 16 bits", x.read(1, 0), -32768);
        x.write(2, 0, -1);

        promise = 7;
        due("-1 is read", x.read(2, 0), -1);
        status("a -1", 0);
        refused("read of tray 4", x.read(4, 0), 1);
        refused("read of place 3", x.read(0, 3), 4);
        refused("read of place -1", x.read(0, -1), 4);

        fresh(8, null);
        x.tray(0, 1, 5);
        x.tray(1, 1, 3);
        x.tray(2, 2, 3);
        for (int i = 0; i < 5; i++) {
            x.write(0, i, 10 + i);
        }
        due("pour onto itself", x.pour(0, 0, 0, 1, 4), true);
        status("pour", 0);
        int[] moved = {10, 10, 11, 12, 13};
        for (int i = 0; i < 5; i++) {
            due("place " + i, x.read(0, i), moved[i]);
        }
        due("pour back", x.pour(0, 1, 0, 0, 4), true);
        due("first", x.read(0, 0), 10);
        due("third", x.read(0, 2), 12);
        due("pour into another", x.pour(0, 2, 1, 0, 3), true);
        due("its last", x.read(1, 2), 13);
        refused("trays that are not", x.pour(0, 0, 4, 0, 1), 1);
        refused("trays that are not", x.pour(-1, 0, 3, 0, 1), 1);
        refused("a missing one", x.pour(0, 0, 3, 0, -1), 3);
        refused("a missing one", x.pour(3, 0, 2, 0, -1), 3);
        refused("unlike sorts go ahead of the rest", x.pour(0, 9, 2, 0, -1), 11);
        refused("below 0 goes ahead of places", x.pour(0, -1, 1, 0, -1), 6);
        refused("too many", x.pour(0, 2, 1, 0, 4), 4);
        refused("too many there", x.pour(0, 0, 1, 1, 3), 4);
        refused("place -1", x.pour(0, -1, 1, 0, 1), 4);
        refused("place -1 there", x.pour(0, 0, 1, -1, 1), 4);
        refused("very many", x.pour(0, Integer.MAX_VALUE, 1, 0, Integer.MAX_VALUE), 4);
        due("none at all", x.pour(0, 5, 1, 3, 0), true);
        due("nothing changed", x.read(1, 0), 12);
    }

    private static void tape() {
        fresh(9, null);
        for (int i = 1; i <= 45; i++) {
            due("feed", x.feed(0x20202020, 0, -1, 1, 2), 20 * i);
        }
        due("one more", x.feed(0, 0, 0, 0, 0), NONE);
        due("one more", x.feed(0, 0, 0, 0, 0), NONE);
        status("feed has none", 0);
        refused("900 bytes", x.land(900), 10);
        due("the first bytes are blanks, then comes a 0", x.fault(1), 4);
        due("the tape is empty", x.feed(0, 0, 0, 0, 0), 20);

        for (int i = 0; i < 45; i++) {
            x.feed(0x3b3b3b3b, 0x3b3b3b3b, 0x3b3b3b3b, 0x3b3b3b3b, 0x3b3b3b3b);
        }
        x.land(0);
        for (int i = 0; i < 45; i++) {
            x.feed(0x3b3b3b3b, 0x3b3b3b3b, 0x3b3b3b3b, 0x3b3b3b3b, 0x3b3b3b3b);
        }
        refused("900 tokens", x.land(900), 10);
        due("the first one", x.fault(1), 0);

        fresh(10, SMALL);
        refused("more than the tape has", x.land(1), 5);
        refused("below 0", x.land(-1), 5);
        feed("wide 2;row pp;");
        refused("more than the tape has", x.land(21), 5);
        due("the tape stays with 5", x.feed(0x20202020, 0x20202020, 0x20202020, 0x20202020, 0x20202020), 40);
        due("land", x.land(14), 0);
        due("the tape is empty", x.feed(0, 0, 0, 0, 0), 20);
        due("wide", x.many(0), 2);
        due("no companies", x.many(3), 0);
        feed("wide 2;row pw;");
        x.land(14);
        due("bytes ahead come first", x.fault(0), 1);
        feed("wide 3;row ppp;");
        due("only the first n bytes", x.land(14), NONE);
        due("the end", x.fault(1), 14);
        due("the old one stays", x.many(0), 2);
        refused("no bytes", x.land(0), 10);
        due("fault 2", x.fault(0), 2);
        due("at the text's length", x.fault(1), 0);

        promise = 11;
        refused("more than the tape has", x.orders(1), 5);
        refused("below 0", x.orders(-1), 5);
        for (int i = 0; i < 16; i++) {
            x.feed(0x20202020, 0x20202020, 0x20202020, 0x20202020, 0x20202020);
        }
        refused("above 300", x.orders(301), 5);
        due("300", x.orders(300), 0);
        due("orders of no steps are orders", x.run(5), 0);
        ordersTaken("bite 0 at 1 0;", 1);
        refused("faulty ones", orders("bite"), 10);
        due("the old ones stay", x.run(5), 1);
        land("wide 2;row pp;");
        refused("none behind a land", x.run(5), 8);

        fresh(12, SMALL);
        due("fault", x.fault(0), 0);
        due("no place", x.fault(1), NONE);
        due("others", x.fault(2), NONE);
        due("others", x.fault(-1), NONE);
        land("wide 2;row pp; ?");
        due("fault", x.fault(0), 1);
        due("place", x.fault(1), 15);
        x.land(5);
        due("a 5 changes nothing", x.fault(0), 1);
        orders("home;stop;end;");
        due("that of orders", x.fault(0), 2);
        due("its place", x.fault(1), 10);
        orders("home;");
        due("none", x.fault(0), 0);
        due("nowhere", x.fault(1), NONE);
    }

    private static void landTexts() {
        fresh(10, null);
        due("least", land("wide 2;row pp;"), 0);
        due("no blanks between tokens", land("wide2;row pw;rise0 0by9;company a at0 0to 1 0by0;"), 1);
        due("its water", x.ground(1, 0, 0), 3);
        due("many blanks", land(" \n wide \n 03 ;\nrow\nprh\n;\n\n row wfp ; "), 0);
        due("three wide", x.many(0), 3);
        due("largest", land("wide 8;row pppppppp;row pppppppp;row pppppppp;row pppppppp;row pppppppp;row pppppppp;copies 3;"
            + "company a at 7 5 to 0 0 by 2;company b at 0 0 to 7 5;company c at 0 0 to 7 5;company d at 0 0 to 7 5;"
            + "company e at 0 0 to 7 5;company abcdefgh at 1 1 to 1 1 by 0;"), 6);
        due("rises told twice", land("wide 2;row pp;rise 1 0 by 9;rise 1 0 by 3;"), 0);
        due("the latest", x.ground(1, 0, 2), 3);

        landFault("", "", 2);
        landFault("   ", 2, 3);
        landFault("wide2", "x;", 2);
        landFault("", "row pp;", 2);
        landFault("wide ", "1;", 4);
        landFault("wide ", "9;", 4);
        landFault("wide ", "12345;", 1);
        landFault("wide 0002", "", 2);
        landFault("wide ", "x", 2);
        landFault("wide 2 ", "3;", 2);
        landFault("wide 2;", "", 2);
        landFault("wide 2;", "copies 2;", 2);
        landFault("wide 2;", "company a at 0 0 to 0 0;", 2);
        landFault("wide 2;", "Row pp;", 1);
        landFault("wide 2;row ", "ppp;", 2);
        landFault("wide 2;row ", "p;", 2);
        landFault("wide 2;row ", "pq;", 2);
        landFault("wide 2;row ", "12;", 2);
        landFault("wide 2;row pp", "", 2);
        landFault("wide 2;row pp;rise 0 0 by 1;", "row pp;", 2);
        String six = "wide 2;row pp;row pp;row pp;row pp;row pp;row pp;";
        landFault(six, "row pp;", 6);
        landFault(six + "copies 1;", "row pp;", 2);
        String good = "wide 2;row pp;";
        landFault(good + "rise ", "2 0 by 1;", 4);
        landFault(good + "rise 1 ", "1 by 1;", 4);
        landFault(good + "rise 1 0 ", "1;", 2);
        landFault(good + "rise 1 0 by ", "10;", 4);
        landFault(good + "copies ", "0;", 4);
        landFault(good + "copies ", "4;", 4);
        landFault(good + "copies 2;", "copies 2;", 5);
        landFault(good, "wide", 2);
        landFault(good, "stop;", 2);
        landFault(good, ";", 2);
        landFault(good, "-", 1);
        landFault(good, "\t", 1);
        landFault(good, "\u00e9", 1);
        landFault(good + "company ", "abcdefghi at 0 0 to 0 0;", 2);
        landFault(good + "company ", "3", 2);
        for (String word : "wide row rise by copies company at to bite mould honey steam mouse march home when eaten arrives crumbs loop end stop"
            .split(" ")) {
            landFault(good + "company ", word + " at 0 0 to 0 0;", 2);
        }
        due("a name that begins like a reserved word", land(good + "company ro at 0 0 to 0 0;company rows at 0 0 to 0 0;"), 2);
        landFault(good + "company a at 0 0 to 0 0;company ", "a at 0 0 to 0 0;", 3);
        landFault(good + "company a ", "to 0 0 to 0 0;", 2);
        landFault(good + "company a at ", "2 0 to 0 0;", 4);
        landFault(good + "company a at 0 ", "1 to 0 0;", 4);
        landFault(good + "company a at 0 0 to 0 ", "5 by 0;", 4);
        landFault(good + "company a at 0 0 to 0 0 by ", "1;copies 2;", 4);
        landFault(good + "copies 2;company a at 0 0 to 0 0 by ", "2;", 4);
        landFault(good + "company a at 0 0 to 0 0 ", "at", 2);
        landFault(good + "company a at 0 0 to 0 0", "", 2);
        StringBuilder companies = new StringBuilder(good);
        for (char c = 'a'; c < 'g'; c++) {
            companies.append("company ").append(c).append(" at 0 0 to 0 0;");
        }
        due("six companies", land(companies.toString()), 6);
        landFault(companies.toString(), "company a at 0 0 to 0 0;", 6);
    }

    private static void ordersTexts() {
        fresh(11, SMALL);
        ordersTaken("", 0);
        ordersTaken(" \n ", 0);
        ordersTaken("bite 1 at 3 2;mould 0;honey 0 at 0 0;steam 0 to 0;mouse 1 by 12;march cid;home;stop;", 8);
        ordersTaken("when eaten 0 at 0 0;end;when arrives bob;end;when crumbs<0;end;when crumbs>9999;end;when crumbs=5;end;", 5);
        ordersTaken("loop 1;loop 99;when crumbs = 1;home;end;end;loop 3;end;end;home;", 6);
        ordersFault("", "end;", 2);
        ordersFault("loop 2;end;", "end;", 2);
        ordersFault("loop 2;", "", 2);
        ordersFault("loop 2;home;  ", 2, 14);
        ordersFault("", "wide 3;", 2);
        ordersFault("", "eaten 0 at 0 0;", 2);
        ordersFault("", "ann;", 2);
        ordersFault("", "5;", 2);
        ordersFault("", "?", 1);
        ordersFault("", "12345", 1);
        ordersFault("bite ", "2 at 0 0;", 4);
        ordersFault("bite 0 ", "to 0 0;", 2);
        ordersFault("bite 0 at ", "4 0;", 4);
        ordersFault("bite 0 at 3 ", "3;", 4);
        ordersFault("bite 0 at 3 2", "", 2);
        ordersFault("mould ", "2;", 4);
        ordersFault("mould 1 ", "at 0 0;", 2);
        ordersFault("honey 1 at 0 0 ", "", 2);
        ordersFault("steam 0 to ", "2;", 4);
        ordersFault("steam 0 ", "by 1;", 2);
        ordersFault("mouse 0 by ", "13;", 4);
        ordersFault("mouse ", "2 by 3;", 4);
        ordersFault("steam ", "2 to 1;", 4);
        ordersFault("honey ", "2 at 0 0;", 4);
        StringBuilder empty = new StringBuilder();
        for (int i = 0; i < 27; i++) {
            empty.append("loop 1;end;");
        }
        ordersTaken(empty.toString(), 27);
        due("all of them are done", x.run(0), 27);
        ordersFault("mouse 0 ", "to 3;", 2);
        ordersFault("march ", "dan;", 3);
        ordersFault("march ", "abcdefghi;", 2);
        ordersFault("march ", "home;", 2);
        ordersFault("march ", "3;", 2);
        ordersFault("march ann ", "bob;", 2);
        ordersFault("home ", "ann;", 2);
        ordersFault("stop ", "home;", 2);
        ordersFault("loop ", "0;end;", 4);
        ordersFault("loop ", "100;end;", 4);
        ordersFault("when ", "bite 0 at 0 0;end;", 2);
        ordersFault("when ", ";", 2);
        ordersFault("when eaten 0 at 0 ", "3;end;", 4);
        ordersFault("when arrives ", "dan;end;", 3);
        ordersFault("when crumbs ", "; 3;end;", 2);
        ordersFault("when crumbs < ", "ann;end;", 2);
        ordersFault("when crumbs < ", "10000;end;", 1);
        ordersFault("when crumbs < 5 ", "end;", 2);
        String deep = "loop 2;when crumbs > 5;loop 2;";
        ordersFault(deep, "loop 3;", 7);
        ordersFault(deep, "when nonsense;", 7);
        ordersFault(deep + "home;end;end;end;", "end;", 2);
        ordersTaken(deep + "end;loop 2;end;end;end;", 4);
        String thirty = "home;home;home;home;home;home;home;home;home;home;";
        thirty += thirty + thirty;
        ordersTaken(thirty, 30);
        ordersFault(thirty, "home;", 6);
        ordersFault(thirty, "end;", 2);
        ordersFault(thirty, "row;", 2);
        ordersFault("home;home;home;home;home;home;home;home;home;home;home;home;home;home;home;home;home;home;home;home;home;home;"
            + "home;home;home;home;home;" + deep, "loop 3;", 6);
    }

    private static void asking() {
        fresh(13, SMALL);
        int[] many = {4, 3, 2, 3, 0, 58};
        for (int what = 0; what < 6; what++) {
            due("many(" + what + ")", x.many(what), many[what]);
        }
        refused("many(-1)", x.many(-1), 5);
        refused("many(6)", x.many(6), 5);
        x.bite(0, 1, 1);
        due("eaten", x.many(4), 5);
        due("left", x.many(5), 53);

        promise = 14;
        due("road", x.ground(1, 0, 0), 1);
        due("hill", x.ground(0, 1, 0), 2);
        due("water", x.ground(1, 1, 0), 3);
        due("ford", x.ground(2, 1, 0), 4);
        int[][] costs = {{0, 0, 2}, {1, 0, 1}, {0, 1, 4}, {2, 1, 3}, {3, 0, 4}};
        for (int[] c : costs) {
            due("cost at " + c[0] + " " + c[1], x.ground(c[0], c[1], 1), c[2]);
            due("crumbs at " + c[0] + " " + c[1], x.ground(c[0], c[1], 3), c[2]);
        }
        refused("cost of water", x.ground(1, 1, 1), 8);
        due("crumbs of water", x.ground(1, 1, 3), 5);
        due("it rises", x.ground(3, 0, 2), 2);
        due("it does not", x.ground(1, 1, 2), 0);
        refused("what 4", x.ground(1, 1, 4), 5);
        refused("what -1", x.ground(1, 1, -1), 5);
        refused("no such cell goes first", x.ground(4, 0, 4), 2);
        refused("no such cell", x.ground(-1, 0, 0), 2);
        refused("no such cell", x.ground(0, 3, 0), 2);
        refused("no such cell", x.ground(0, -1, 0), 2);
        land("wide 2;row wp;rise 0 0 by 9;");
        due("crumbs of water that rises", x.ground(0, 0, 3), 14);

        fresh(15, SMALL);
        x.bite(1, 0, 0);
        x.mould(1, 1, 1);
        x.honey(1, 2, 2);
        due("whole", x.cell(1, 3, 2), 0);
        due("bitten", x.cell(1, 0, 0), 1);
        due("mouldy", x.cell(1, 1, 1), 2);
        due("honeyed", x.cell(1, 2, 2), 3);
        due("the other copy is whole", x.cell(0, 0, 0), 0);
        refused("copy 2", x.cell(2, 0, 0), 2);
        refused("copy -1", x.cell(-1, 0, 0), 2);
        refused("x 4", x.cell(0, 4, 0), 2);
        refused("y 3", x.cell(0, 0, 3), 2);
        promise = 16;
        due("plain", x.shows(0, 0, 0), 0);
        due("road", x.shows(0, 1, 0), 1);
        due("hill", x.shows(0, 0, 1), 2);
        due("water", x.shows(0, 1, 1), 3);
        due("ford", x.shows(0, 2, 1), 4);
        due("nothing", x.shows(1, 0, 0), 5);
        due("forest", x.shows(1, 1, 1), 6);
        due("enemy", x.shows(1, 2, 2), 7);
        refused("copy 2", x.shows(2, 0, 0), 2);
        refused("x -1", x.shows(0, -1, 0), 2);

        promise = 17;
        int[] bob = {0, 2, 3, 0, 1, 0};
        for (int what = 0; what < 6; what++) {
            due("company(1, " + what + ")", x.company(1, what), bob[what]);
        }
        refused("what 6", x.company(1, 6), 5);
        refused("what -1", x.company(1, -1), 5);
        refused("no such company goes first", x.company(3, 6), 2);
        refused("company -1", x.company(-1, 0), 2);
    }

    private static void bread() {
        fresh(18, SMALL);
        due("plain that rises", x.bite(0, 3, 0), 4);
        status("bite", 0);
        refused("once more", x.bite(0, 3, 0), 9);
        due("hill", x.bite(0, 0, 1), 4);
        due("water", x.bite(1, 1, 1), 5);
        x.honey(0, 1, 0);
        due("a honeyed road", x.bite(0, 1, 0), 1);
        x.mould(0, 2, 1);
        due("a mouldy ford", x.bite(0, 2, 1), 3);
        due("eaten", x.many(4), 17);
        due("all together", x.many(4) + x.many(5), 58);
        refused("copy 2", x.bite(2, 0, 0), 2);
        refused("y 3", x.bite(0, 0, 3), 2);

        fresh(19, SMALL);
        due("mould", x.mould(0, 0, 0), true);
        refused("on mould", x.mould(0, 0, 0), 9);
        x.honey(0, 1, 0);
        refused("on honey", x.mould(0, 1, 0), 9);
        x.bite(0, 2, 0);
        refused("on nothing", x.mould(0, 2, 0), 9);
        refused("no copy", x.mould(2, 0, 0), 2);
        refused("no cell", x.mould(0, 4, 0), 2);
        due("all together", x.many(4) + x.many(5), 58);

        promise = 20;
        due("honey on mould", x.honey(0, 0, 0), true);
        due("is honeyed", x.cell(0, 0, 0), 3);
        due("honey", x.honey(0, 0, 1), true);
        refused("on honey", x.honey(0, 1, 0), 9);
        refused("on nothing", x.honey(0, 2, 0), 9);
        refused("no copy", x.honey(-1, 0, 0), 2);
        refused("no cell", x.honey(0, 0, -1), 2);

        promise = 21;
        x.mould(0, 3, 0);
        due("clean of mould", x.clean(0, 3, 0), true);
        due("clean of honey", x.clean(0, 0, 0), true);
        due("is whole", x.cell(0, 0, 0), 0);
        due("is whole", x.cell(0, 3, 0), 0);
        refused("whole", x.clean(0, 0, 0), 9);
        refused("nothing", x.clean(0, 2, 0), 9);
        refused("no copy", x.clean(2, 2, 0), 2);
        refused("no cell", x.clean(0, 4, 0), 2);

        fresh(22, SMALL);
        x.bite(0, 0, 0);
        x.mould(0, 1, 0);
        x.bite(1, 3, 2);
        x.bite(1, 0, 1);
        int eaten = x.many(4);
        due("steam 1 off 0", x.steam(0, 1), 4);
        status("steam", 0);
        due("bitten like it", x.cell(1, 0, 0), 1);
        due("baked anew", x.cell(1, 3, 2), 0);
        due("mouldy like it", x.cell(1, 1, 0), 2);
        due("the first is as it was", x.count(0, 1), 1);
        due("eaten stays", x.many(4), eaten);
        due("left", x.many(5), 58 - 4);
        due("again", x.steam(0, 1), 0);
        refused("off itself", x.steam(1, 1), 5);
        refused("off copy 2", x.steam(2, 1), 2);
        refused("no copy goes first", x.steam(2, 2), 2);
        refused("to copy -1", x.steam(0, -1), 2);

        promise = 23;
        due("like", x.unlike(0, 1), 0);
        x.honey(1, 1, 0);
        x.bite(0, 3, 2);
        due("unlike", x.unlike(0, 1), 2);
        due("unlike", x.unlike(1, 0), 2);
        due("itself", x.unlike(1, 1), 0);
        refused("copy 2", x.unlike(0, 2), 2);
        refused("copy -1", x.unlike(-1, 0), 2);

        promise = 24;
        due("whole", x.count(0, 0), 9);
        due("bitten", x.count(0, 1), 2);
        due("mouldy", x.count(0, 2), 1);
        due("honeyed", x.count(1, 3), 1);
        refused("how 4", x.count(0, 4), 5);
        refused("how -1", x.count(0, -1), 5);
        refused("no copy goes first", x.count(2, 4), 2);

        fresh(25, PLAINS);
        due("none", x.hole(0), 0);
        int[][] bites = {{0, 0}, {1, 1}, {2, 0}, {4, 0}, {0, 1}};
        int[] heaps = {1, 1, 1, 1, 3};
        for (int i = 0; i < bites.length; i++) {
            x.bite(0, bites[i][0], bites[i][1]);
            due("heap " + i, x.hole(0), heaps[i]);
        }
        x.bite(0, 2, 1);
        due("all but the corner", x.hole(0), 5);
        due("another copy", x.hole(1), 0);
        refused("copy 3", x.hole(3), 2);
        refused("copy -1", x.hole(-1), 2);
        land("wide 8;row pppppppp;row pppppppp;");
        x.bite(0, 7, 0);
        x.bite(0, 0, 1);
        due("the end of a row is not beside the next row's beginning", x.hole(0), 1);
    }

    private static void ways() {
        fresh(26, SMALL);
        due("ann", x.way(0), 8);
        status("way", 0);
        int[][] cells = {{0, 0}, {1, 0}, {2, 0}, {2, 1}, {3, 1}, {3, 2}};
        for (int k = 0; k < cells.length; k++) {
            due("x of " + k, x.wayAt(k, 0), cells[k][0]);
            due("y of " + k, x.wayAt(k, 1), cells[k][1]);
        }
        refused("company 3", x.way(3), 2);
        refused("company -1", x.way(-1), 2);
        promise = 27;
        refused("behind the end", x.wayAt(6, 0), 8);
        refused("ahead of the beginning", x.wayAt(-1, 0), 8);
        refused("what 2", x.wayAt(0, 2), 5);
        refused("what goes first", x.wayAt(9, -1), 5);
        due("cid", x.way(2), 0);
        due("one cell", x.wayAt(0, 0), 1);
        refused("no more", x.wayAt(1, 0), 8);
        x.way(0);
        x.bite(0, 3, 2);
        refused("no way", x.way(0), 9);
        due("the latest that there was", x.wayAt(5, 0), 3);
        x.march(1);
        x.truly(1);
        x.seen(1, 0);
        x.reach();
        x.cut(1);
        x.supper(0, 1, 0);
        due("no other call changes it", x.wayAt(3, 0), 2);

        fresh(26, "wide 3;row ppp;row ppp;row ppp;company a at 1 1 to 0 0;company b at 0 0 to 2 2;company c at 2 2 to 0 0;");
        x.way(0);
        due("left ahead of up", x.wayAt(1, 0), 0);
        x.way(1);
        due("right ahead of down", x.wayAt(2, 0), 2);
        due("right ahead of down", x.wayAt(2, 1), 0);
        x.way(2);
        due("left ahead of up", x.wayAt(2, 0), 0);
        due("left ahead of up", x.wayAt(2, 1), 2);
        due("where it is need not be whole", x.bite(0, 1, 1), 2);
        due("way", x.way(0), 4);
        x.honey(0, 0, 0);
        refused("the enemy", x.way(0), 9);
        x.clean(0, 0, 0);
        x.mould(0, 0, 0);
        due("through a forest", x.way(0), 7);

        fresh(26, "wide 4;row prrr;row prrp;row rrhr;company a at 0 0 to 3 2;company b at 0 1 to 3 1;");
        due("along the roads", x.way(0), 6);
        due("b", x.way(1), 4);
        land("wide 3;row rrr;row phr;row rrr;company a at 0 0 to 0 2;company b at 0 1 to 2 1;");
        due("cost", x.way(0), 3);
        due("fewest cells", x.wayAt(2, 1), 2);
        due("b: by way of the hill it costs 5, round it 4", x.way(1), 4);
        due("down and up are as good: down first", x.wayAt(1, 1), 2);
        land("wide 3;row rrr;row prp;row fpr;rise 1 1 by 1;company a at 0 1 to 2 1;");
        due("of one cost", x.way(0), 4);
        due("the fewest cells", x.wayAt(1, 1), 1);
        refused("two steps alone", x.wayAt(3, 0), 8);
        land("wide 2;row pw;company a at 0 0 to 1 0;");
        refused("nobody comes into water", x.way(0), 9);
        x.mould(0, 1, 0);
        due("a forest, whatever it is", x.way(0), 5);
        land("wide 2;row wp;company a at 0 0 to 1 0;");
        due("out of water", x.way(0), 2);
        land("wide 3;row pwp;rise 1 0 by 3;company a at 0 0 to 2 0;");
        x.mould(0, 1, 0);
        due("a forest that rises", x.way(0), 10);
        x.bite(0, 0, 0);
        due("from nothing", x.way(0), 10);
        land("wide 2;row pp;company a at 0 0 to 0 0;");
        x.bite(0, 0, 0);
        due("one that is there", x.way(0), 0);
        due("reach", x.reach(), 1);
    }

    private static void marches() {
        fresh(28, SMALL);
        due("march", x.march(0), 5);
        due("stuck", x.stuck(), 0);
        due("x", x.company(0, 0), 3);
        due("y", x.company(0, 1), 2);
        due("cost", x.company(0, 5), 8);
        due("it is there", x.march(0), 0);
        due("cost", x.company(0, 5), 8);
        refused("company 3", x.march(3), 2);
        refused("company -1", x.march(-1), 2);
        x.bite(1, 3, 0);
        refused("no way", x.march(1), 9);
        promise = 29;
        due("the latest with 0", x.stuck(), 0);

        fresh(28, "wide 5;row ppwpp;rise 1 0 by 3;company a at 0 0 to 4 0;company b at 4 0 to 3 0;");
        x.mould(0, 2, 0);
        x.mould(0, 1, 0);
        due("way by the copy", x.way(0), 8 + 5 + 2 + 2);
        due("march", x.march(0), 1);
        due("as far as the ground lets it", x.company(0, 0), 1);
        due("what the ground costs", x.company(0, 5), 5);
        promise = 29;
        due("stuck", x.stuck(), 1);
        status("stuck", 0);
        due("march again", x.march(0), 0);
        due("stuck again", x.stuck(), 1);
        x.march(1);
        due("not stuck", x.stuck(), 0);

        promise = 30;
        refused("water lies on it", x.truly(0), 9);
        due("it is there", x.truly(1), 0);
        refused("company 2", x.truly(2), 2);
        land("wide 3;row ppp;company a at 0 0 to 2 0;");
        x.mould(0, 1, 0);
        due("way", x.way(0), 7);
        due("truly", x.truly(0), 4);
        x.honey(0, 1, 0);
        refused("no way", x.truly(0), 9);
        promise = 31;
        due("by the ground", x.best(0), 4);
        refused("company 1", x.best(1), 2);
        land("wide 3;row pwp;company a at 0 0 to 2 0;company b at 1 0 to 1 0;company c at 1 0 to 0 0;");
        x.mould(0, 1, 0);
        refused("none", x.best(0), 9);
        due("there", x.best(1), 0);
        due("out of water", x.best(2), 2);

        fresh(32, SMALL);
        x.bite(1, 3, 2);
        due("hand", x.hand(0, 1), true);
        status("hand", 0);
        due("by 1", x.company(0, 4), 1);
        refused("no way by it", x.way(0), 9);
        due("the same", x.hand(0, 1), true);
        refused("copy 2", x.hand(0, 2), 2);
        refused("copy -1", x.hand(0, -1), 2);
        refused("company 3", x.hand(3, 0), 2);
        promise = 33;
        due("reach", x.reach(), 6);
        x.hand(0, 0);
        due("reach", x.reach(), 7);
        x.bite(1, 3, 0);
        due("reach", x.reach(), 5);
        status("reach", 0);

        fresh(34, SMALL);
        x.honey(1, 0, 0);
        x.honey(1, 2, 0);
        x.honey(1, 3, 2);
        x.honey(1, 0, 2);
        due("seen", x.seen(0, 1), 3);
        due("seen on its own copy", x.seen(0, 0), 0);
        x.honey(0, 1, 2);
        due("where it is, once", x.seen(2, 0), 1);
        refused("copy 2", x.seen(0, 2), 2);
        refused("company 3", x.seen(3, 0), 2);
        x.bite(0, 3, 2);
        refused("no way", x.seen(0, 1), 9);
    }

    private static void eating() {
        fresh(35, "wide 3;row ppp;row ppp;company a at 0 0 to 2 0;");
        due("one: a way is left", x.supper(0, 1, 0), 1);
        due("its cost", x.supper(0, 1, 1), 4);
        due("the first that does not matter", x.supper(0, 1, 2), 3);
        refused("one alone", x.supper(0, 1, 3), 8);
        due("two: a way is left", x.supper(0, 2, 0), 1);
        due("their first", x.supper(0, 2, 2), 3);
        due("their second", x.supper(0, 2, 3), 4);
        due("cost", x.supper(0, 2, 1), 4);
        due("nothing is bitten by asking", x.count(0, 1), 0);
        refused("no copy", x.supper(1, 3, 9), 2);
        refused("three cells", x.supper(0, 3, 0), 5);
        refused("no cells", x.supper(0, 0, 0), 5);
        refused("what 4", x.supper(0, 1, 4), 5);
        refused("what -1", x.supper(0, 1, -1), 5);
        x.bite(0, 0, 1);
        x.bite(0, 1, 1);
        x.bite(0, 2, 1);
        due("the last one", x.supper(0, 1, 2), 1);
        due("no way is left", x.supper(0, 1, 0), 0);
        due("no cost", x.supper(0, 1, 1), 0);
        refused("too few", x.supper(0, 2, 0), 9);
        x.bite(0, 1, 0);
        refused("none", x.supper(0, 1, 0), 9);
        refused("8 goes ahead of 9", x.supper(0, 1, 3), 8);
        land("wide 3;row ppp;row rwr;row prp;copies 2;company a at 0 0 to 2 0;company b at 0 0 to 2 2 by 1;");
        due("cells of companies by another copy count", x.supper(0, 2, 3), 4);
        due("honeyed and water cells are eaten too", x.supper(0, 2, 2), 3);
        x.hand(1, 0);
        due("both ways are left", x.supper(0, 1, 0), 2);
        due("water is the first that does not matter", x.supper(0, 1, 2), 4);

        fresh(36, PLAINS);
        due("a corner", x.cut(1), 2);
        refused("there", x.cut(2), 9);
        due("from the middle into a corner", x.cut(0), 2);
        refused("company 3", x.cut(3), 2);
        land("wide 5;row ppppp;row ppppp;row ppppp;row ppppp;row ppppp;company a at 1 2 to 3 2;company b at 0 2 to 4 2;"
            + "company c at 1 1 to 2 1;company d at 1 1 to 2 2;");
        due("all four sides", x.cut(0), 4);
        due("from side to side", x.cut(1), 3);
        refused("beside", x.cut(2), 9);
        due("across", x.cut(3), 4);
        x.honey(0, 1, 1);
        due("the enemy helps", x.cut(0), 3);
        x.bite(0, 2, 2);
        x.bite(0, 1, 3);
        due("one row", x.cut(0), 1);
        x.bite(0, 0, 2);
        refused("no way", x.cut(0), 9);

        land("wide 6;row pppppp;row pppppp;row ppwppp;row ppppwp;company a at 2 1 to 4 2;");
        due("three rows that must make room for one another", x.cut(0), 3);
        land("wide 8;row pppppppp;row ppwppppw;row ppppwppp;row pppppppp;row pppppppp;row pppwpwpp;company a at 1 3 to 6 2;");
        due("four rows that must", x.cut(0), 4);

        fresh(37, SMALL);
        due("ahead of ann", x.worth(0, 1, 0), 3);
        due("not on her way", x.worth(0, 0, 1), 0);
        due("where she is", x.worth(0, 0, 0), 0);
        due("where she would come", x.worth(0, 3, 2), 100);
        due("where cid is and would come", x.worth(0, 1, 2), 0);
        refused("copy 2", x.worth(2, 0, 0), 2);
        refused("x 4", x.worth(0, 4, 0), 2);
        x.honey(0, 0, 1);
        due("no other way", x.worth(0, 1, 0), 100);
        x.bite(0, 1, 0);
        refused("bitten", x.worth(0, 1, 0), 9);
        due("none who has no way", x.worth(0, 3, 1), 0);

        fresh(38, SMALL);
        due("most worth", x.mostWorth(0, 0), 1);
        due("its worth", x.mostWorth(0, 1), 3);
        due("of several the first", x.mostWorth(1, 0), 7);
        refused("copy 2", x.mostWorth(2, 2), 2);
        refused("what 2", x.mostWorth(0, 2), 5);
        refused("what -1", x.mostWorth(0, -1), 5);
        land("wide 3;row ppp;row ppp;copies 2;");
        due("the first of several", x.mostWorth(1, 0), 0);
        due("worth nothing", x.mostWorth(1, 1), 0);
        x.bite(1, 0, 0);
        due("not a bitten one", x.mostWorth(1, 0), 1);
        land("wide 2;row pp;company a at 0 0 to 1 0;");
        refused("none", x.mostWorth(0, 0), 8);
    }

    private static void setTray(int tray, int... numbers) {
        x.tray(tray, 2, numbers.length);
        for (int i = 0; i < numbers.length; i++) {
            x.write(tray, i, numbers[i]);
        }
    }

    private static void crumbsAndHalves() {
        fresh(39, "wide 8;row pppppppp;row rrrrrrrr;row hhhhhhhh;row wwwwwwww;row ffffffff;row pppppppp;copies 2;");
        setTray(0, 0, 0, 0, 0, 0);
        due("nothing was bitten", x.told(0, 0), 1);
        setTray(0, 1, 0, 0, 0, 0);
        due("not as many", x.told(0, 0), 0);
        status("told", 0);
        for (int i = 0; i < 5; i++) {
            x.bite(0, i, 0);
        }
        setTray(0, 1, 1, 1, 1, 1, 99);
        due("all unlike", x.told(0, 0), 120);
        setTray(0, 2, 2, 1, 0, 0);
        due("some alike", x.told(0, 0), 30);
        due("another copy", x.told(1, 0), 0);
        setTray(0, 2, 2, 1, 0, 49);
        refused("49", x.told(0, 0), 5);
        setTray(0, 2, 2, 1, 0, 48);
        due("48", x.told(0, 0), 0);
        setTray(0, 3, 2, 1, 0, -1);
        refused("-1", x.told(0, 0), 5);
        setTray(0, 2, 2, 1, 0);
        refused("too few", x.told(0, 0), 4);
        refused("tray 4 goes first", x.told(2, 4), 1);
        refused("copy 2 goes next", x.told(2, 3), 2);
        refused("a missing one", x.told(0, 3), 3);
        x.tray(0, 3, 5);
        x.write(0, 0, Long.MAX_VALUE);
        refused("far too many", x.told(0, 0), 5);
        for (int cell = 5; cell < 48; cell++) {
            x.bite(0, cell % 8, cell / 8);
        }
        setTray(0, 10, 10, 10, 9, 9);
        due("at most", x.told(0, 0), 999_999_999_999L);
        setTray(0, 0, 38, 0, 0, 10);
        due("48 over 10", x.told(0, 0), 6_540_715_896L);
        setTray(0, 0, 0, 0, 24, 24);
        due("at most", x.told(0, 0), 999_999_999_999L);
        setTray(0, 34, 14, 0, 0, 0);
        due("48 over 14", x.told(0, 0), 482_320_623_240L);
        setTray(0, 0, 0, 33, 15, 0);
        due("48 over 15", x.told(0, 0), 999_999_999_999L);
        setTray(0, 0, 0, 48, 0, 0);
        due("one way", x.told(0, 0), 1);

        fresh(40, "wide 3;row ppr;row prf;row ppp;copies 2;");
        due("roads and fords fit", x.halves(0, 1, 0), 2);
        due("unmoved", x.halves(0, 1, 1), 0);
        status("halves", 0);
        x.honey(0, 1, 1);
        due("the enemy", x.halves(0, 1, 0), 1);
        x.honey(1, 2, 2);
        due("two enemies, moved", x.halves(0, 1, 0), 1);
        due("up", x.halves(0, 1, 1), -1);
        status("a move of -1", 0);
        refused("copy 2", x.halves(0, 2, 2), 2);
        refused("copy -1", x.halves(-1, 0, 0), 2);
        refused("what 2", x.halves(0, 0, 2), 5);
        refused("what -1", x.halves(0, 0, -1), 5);
        land("wide 2;row ph;row ph;row rh;row ph;row ph;copies 2;");
        due("nothing fits", x.halves(0, 0, 0), 0);
        due("the nearest to 0", x.halves(0, 0, 1), 0);
        x.bite(0, 0, 2);
        x.bite(1, 1, 1);
        due("down", x.halves(0, 1, 1), 1);
        x.bite(1, 1, 3);
        due("of two the one below 0", x.halves(0, 1, 1), -1);
        x.steam(0, 1);
        x.bite(1, 1, 0);
        due("two down", x.halves(0, 1, 1), 2);
        x.bite(1, 1, 4);
        due("of two the one below 0", x.halves(0, 1, 1), -2);
        land("wide 4;row pppp;row pppp;rise 1 0 by 3;");
        due("what it rises is not shown", x.halves(0, 0, 0), 2);
        due("a copy with itself", x.halves(0, 0, 1), 0);
    }

    private static void mice() {
        fresh(41, "wide 3;row ppp;row ppp;row ppp;");
        fraction("at first", x.odds(1, 1, 1, 1, 0), 1, 1);
        fraction("at first, 12 nights", x.odds(1, 1, 1, 1, 12), 1, 1);
        fraction("never", x.odds(0, 0, 2, 2, 3), 0, 1);
        fraction("six ways of 256", x.odds(0, 0, 2, 2, 4), 3, 128);
        fraction("beside", x.odds(1, 1, 2, 1, 1), 1, 4);
        fraction("it stays at the edge", x.odds(0, 0, 1, 0, 2), 3, 8);
        x.bite(0, 1, 0);
        fraction("whatever was bitten", x.odds(0, 0, 1, 0, 2), 3, 8);
        refused("13 nights", x.odds(0, 0, 1, 0, 13), 5);
        refused("-1 nights", x.odds(0, 0, 1, 0, -1), 5);
        refused("no cell goes first", x.odds(3, 0, 0, 0, 13), 2);
        refused("no cell", x.odds(0, 0, 0, 3, 1), 2);
        due("top as it was", x.top(), 3);
        land("wide 2;row pp;");
        fraction("12 nights", x.odds(0, 0, 1, 0, 12), 16777216 - 531441, 16777216);

        fresh(42, "wide 3;row ppp;row ppp;row ppp;");
        fraction("none", x.mean(1, 1, 0), 1, 1);
        fraction("one", x.mean(1, 1, 1), 2, 1);
        fraction("a corner", x.mean(0, 0, 1), 3, 2);
        fraction("two from the middle", x.mean(1, 1, 2), 5, 2);
        refused("9 nights", x.mean(0, 0, 9), 5);
        refused("-1 nights", x.mean(0, 0, -1), 5);
        refused("no cell goes first", x.mean(0, 3, 9), 2);
        land("wide 2;row pp;");
        fraction("8 nights", x.mean(0, 0, 8), 2 * 65536 - 6561, 65536);
    }

    private static void running() {
        fresh(43, SMALL);
        refused("no orders", x.run(0), 8);
        refused("a seed goes first", x.run(10000), 5);
        refused("a seed below 0", x.run(-1), 5);
        ordersTaken("", 0);
        due("none", x.run(9999), 0);
        ordersTaken("bite 0 at 0 0;bite 0 at 0 0;honey 0 at 0 0;honey 1 at 1 0;steam 1 to 1;steam 1 to 0;march ann;bite 1 at 3 0;march bob;", 9);
        due("run", x.run(7), 9);
        promise = 44;
        due("missed", x.ran(0), 4);
        due("bitten", x.ran(1), 2);
        due("stuck", x.ran(2), 0);
        due("left", x.ran(3), 0);
        refused("what 4", x.ran(4), 5);
        refused("what -1", x.ran(-1), 5);
        promise = 43;
        due("it stays so", x.many(4), 2 + 4);
        due("steamed", x.cell(0, 1, 0), 3);
        due("ann went down", x.company(0, 0), 3);
        refused("stuck() tells of march() alone", x.stuck(), 8);

        fresh(43, "wide 4;row pwpp;company a at 0 0 to 3 0;company b at 3 0 to 2 0;");
        ordersTaken("when arrives a;home;stop;end;when arrives b;stop;end;march b;when arrives b;home;home;end;home;", 10);
        due("steps", x.run(0), 7);
        due("home", x.company(1, 0), 3);
        due("the cost stays", x.company(1, 5), 2);
        ordersTaken("stop;home;", 2);
        due("stop is a step", x.run(0), 1);
        due("nothing left by the 300", x.ran(3), 0);
        ordersTaken("when crumbs = 0;home;end;when crumbs < 1;home;end;when crumbs > 0;home;end;bite 0 at 0 0;when crumbs > 1;home;end;"
            + "when crumbs = 2;home;end;when crumbs < 2;home;end;", 13);
        due("tests", x.run(0), 11);
        ordersTaken("when eaten 0 at 0 0;home;end;when eaten 0 at 1 0;home;end;", 4);
        due("eaten", x.run(0), 3);
        x.mould(0, 1, 0);
        ordersTaken("march a;march a;march b;", 3);
        due("marches", x.run(0), 3);
        due("stuck", x.ran(2), 2);
        due("missed", x.ran(0), 0);
        x.honey(0, 1, 0);
        x.run(0);
        due("missed", x.ran(0), 2);
        due("stuck", x.ran(2), 0);

        fresh(43, "wide 2;row pp;");
        ordersTaken("loop 99;home;home;end;home;", 4);
        due("1 and 198 and 1", x.run(0), 200);
        ordersTaken("loop 99;home;home;home;end;home;", 5);
        due("1 and 297 and 1", x.run(0), 299);
        due("none left", x.ran(3), 0);
        ordersTaken("loop 99;home;home;home;end;home;home;", 6);
        due("300", x.run(0), 300);
        due("none left", x.ran(3), 0);
        ordersTaken("loop 99;home;home;home;end;home;home;stop;", 7);
        due("300", x.run(0), 300);
        due("the stop is left", x.ran(3), 1);
        ordersTaken("loop 99;home;home;home;end;home;stop;home;", 7);
        due("300", x.run(0), 300);
        due("stopped", x.ran(3), 0);
        ordersTaken("loop 2;loop 99;when crumbs > 5;home;end;end;end;", 4);
        due("a loop within counts each time", x.run(0), 1 + 2 * 100);
        ordersTaken("loop 99;loop 99;end;end;loop 99;loop 99;end;end;", 4);
        due("empty ones", x.run(0), 200);
        ordersTaken("loop 99;loop 99;loop 99;end;end;end;", 3);
        due("300", x.run(0), 300);
        due("left", x.ran(3), 1);
        promise = 44;
        land("wide 2;row pp;");
        due("still of the latest run", x.ran(3), 1);
    }

    private static int drawn;

    private static int draw(int n) {
        drawn = (drawn * 2837 + 10331) % 65536;
        return drawn / 8 % n;
    }

    private static void draws() {
        int[][] moves = {{1, 0}, {0, 1}, {-1, 0}, {0, -1}};
        for (int seed = 0; seed < 10000; seed += 613) {
            fresh(43, "wide 7;row ppppppp;row ppppppp;row ppppppp;row ppppppp;row ppppppp;");
            ordersTaken("mould 0;mould 0;mouse 0 by 12;mouse 0 by 0;", 4);
            int[][] cells = new int[5][7];
            drawn = seed;
            int missed = 0;
            for (int i = 0; i < 2; i++) {
                int cx = draw(7);
                int cy = draw(5);
                missed += cells[cy][cx] != 0 ? 1 : 0;
                cells[cy][cx] = 2;
            }
            int bitten = 0;
            for (int nights = 12; nights >= 0; nights -= 12) {
                int cx = draw(7);
                int cy = draw(5);
                bitten += cells[cy][cx] == 1 ? 0 : 1;
                cells[cy][cx] = 1;
                for (int night = 0; night < nights; night++) {
                    int[] move = moves[draw(4)];
                    cx = Math.max(0, Math.min(6, cx + move[0]));
                    cy = Math.max(0, Math.min(4, cy + move[1]));
                    bitten += cells[cy][cx] == 1 ? 0 : 1;
                    cells[cy][cx] = 1;
                }
            }
            due("run(" + seed + ")", x.run(seed), 4);
            for (int cell = 0; cell < 35; cell++) {
                due("cell " + cell, x.cell(0, cell % 7, cell / 7), cells[cell / 7][cell % 7]);
            }
            due("missed", x.ran(0), missed);
            due("bitten", x.ran(1), bitten);
            due("crumbs", x.many(4), 2 * bitten);
        }
    }

    private static void arriving() {
        fresh(45, SMALL);
        refused("no orders", x.arrivals(0, 0, 1), 8);
        refused("no company", x.arrivals(3, 0, 21), 2);
        ordersTaken("march ann;march cid;bite 0 at 0 0;", 3);
        fraction("ann", x.arrivals(0, 0, 20), 1, 1);
        fraction("bob", x.arrivals(1, 0, 20), 0, 1);
        fraction("cid", x.arrivals(2, 9999, 1), 1, 1);
        due("all stays as it is", x.company(0, 0), 0);
        due("nothing was eaten", x.many(4), 0);
        refused("there was no run", x.ran(0), 8);
        refused("0 seeds", x.arrivals(0, 0, 0), 5);
        refused("21 seeds", x.arrivals(0, 0, 21), 5);
        refused("-1", x.arrivals(0, -1, 1), 5);
        refused("the last above 9999", x.arrivals(0, 9981, 20), 5);
        refused("far above", x.arrivals(0, Integer.MAX_VALUE, 20), 5);
        fraction("the last 9999", x.arrivals(1, 9980, 20), 0, 1);
        land("wide 2;row pp;company a at 0 0 to 1 0;");
        ordersTaken("mouse 0 by 0;march a;", 2);
        int arrived = 0;
        for (int seed = 40; seed < 52; seed++) {
            drawn = seed;
            arrived += draw(2) == 0 ? 1 : 0;
        }
        int common = java.math.BigInteger.valueOf(arrived).gcd(java.math.BigInteger.valueOf(12)).intValue();
        fraction("those whose mouse does not eat the goal", x.arrivals(0, 40, 12), arrived / common, 12 / common);
    }

    private static void marks() {
        fresh(46, SMALL);
        ordersTaken("home;home;", 2);
        due("one", x.mark(), 1);
        status("mark", 0);
        x.bite(0, 0, 1);
        x.march(0);
        x.hand(0, 1);
        due("two", x.mark(), 2);
        land("wide 2;row pp;");
        x.honey(0, 0, 0);
        due("three", x.mark(), 3);
        refused("four", x.mark(), 7);
        x.tray(0, 0, 1);
        x.write(0, 0, 5);
        promise = 47;
        x.clean(0, 0, 0);
        due("back", x.back(), 2);
        status("back", 0);
        due("honeyed", x.cell(0, 0, 0), 3);
        due("back", x.back(), 1);
        due("the land ahead", x.many(0), 4);
        due("its bite", x.cell(0, 0, 1), 1);
        due("crumbs", x.many(4), 4);
        due("ann", x.company(0, 0), 3);
        due("her copy", x.company(0, 4), 1);
        due("her cost", x.company(0, 5), 8);
        due("its orders", x.run(0), 2);
        due("ann is home", x.company(0, 0), 0);
        due("a mark more", x.mark(), 2);
        x.back();
        due("back", x.back(), 0);
        due("her copy", x.company(0, 4), 0);
        due("her cost", x.company(0, 5), 0);
        due("no crumbs", x.many(4), 0);
        due("the orders", x.run(0), 2);
        ordersTaken("march bob;", 1);
        refused("none left", x.back(), 8);
        due("trays are not taken back", x.read(0, 0), 5);

        fresh(47, SMALL);
        x.mark();
        ordersTaken("home;", 1);
        x.back();
        refused("no orders then", x.run(0), 8);
    }

    private static void keptAcrossLands() {
        fresh(27, SMALL);
        x.way(0);
        x.march(0);
        land("wide 2;row pp;");
        due("the latest way", x.wayAt(4, 0), 3);
        due("the latest way", x.wayAt(4, 1), 1);
        promise = 29;
        due("the latest march", x.stuck(), 0);
        promise = 10;
        x.bite(0, 0, 0);
        land("wide 2;row pp;");
        due("whole", x.cell(0, 0, 0), 0);
        due("no crumbs were eaten", x.many(4), 0);
    }
}
