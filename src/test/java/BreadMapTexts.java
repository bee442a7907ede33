import java.util.ArrayList;
import java.util.List;

/** The texts of a LAND and of ORDERS: each bound, one below and one above it, and each FAULT with its place. */
public final class BreadMapTexts extends Checks {
    private static final String GOOD = "wide 2;row pp;";
    private static final String[] RESERVED = ("wide row rise by copies company at to bite mould honey steam mouse march home when eaten"
        + " arrives crumbs loop end stop").split(" ");

    public static void main(String[] args) {
        bytes();
        tokens();
        cutTexts();
        wrongTokens();
        wide();
        rows();
        rises();
        copies();
        companies();
        names();
        firstAlongTheText();
        landTaken();
        tapeLengths();
        orderNumbers();
        orderNames();
        manySteps();
        deepSteps();
        ends();
        ordersOfTheLand();
        faultTold();
        tell();
    }

    // ---- TOKENS

    private static boolean isBlank(int b) {
        return b == 10 || b == 32;
    }

    private static boolean beginsToken(int b) {
        return b >= 'a' && b <= 'z' || b >= '0' && b <= '9' || b == ';' || b == '<' || b == '>' || b == '=';
    }

    private static void bytes() {
        sentence(10, "1 no TOKEN begins so", null);
        for (int b = 0; b < 256; b++) {
            String one = String.valueOf((char) b);
            if (isBlank(b)) {
                landTaken(GOOD + one, 0);
                landTaken(one + GOOD, 0);
                landTaken("wide" + one + "2" + one + ";" + one + "row" + one + "pp" + one + ";", 0);
                ordersTaken(one, 0);
                ordersTaken("home" + one + ";", 1);
            } else {
                int kind = beginsToken(b) ? 2 : 1;
                landFault(GOOD, one, kind);
                landFault("", one, kind);
                landFault(GOOD + "rise", one + " 0 by 1;", b >= '2' && b <= '9' ? 4 : kind, b >= '0' && b <= '1', b >= 'a' && b <= 'z');
                ordersFault("", one, kind);
                ordersFault("home;", one, kind);
            }
        }
    }

    /** The same unless it would be right so, or would make the WORD ahead another one. */
    private static void landFault(String good, String bad, int kind, boolean isRight, boolean joins) {
        if (isRight) {
            landTaken(good + bad, 0);
        } else if (joins) {
            landFault(good + bad, 2, GOOD.length());
        } else {
            landFault(good, bad, kind);
        }
    }

    private static void tokens() {
        sentence(10, "TOKENS, as long as they go", null);
        landTaken("wide2;row pp;rise0 0by1;company a at0 0to1 0by0;", 1);
        landTaken("wide 2 ; row pp ; rise 0 0 by 1 ; company a at 0 0 to 1 0 by 0 ;", 1);
        landTaken("\n\nwide\n2\n;\nrow\npp\n;\n\n", 0);
        landFault("", "widerow 2;", 2);
        landFault("", "wi de 2;", 2);
        landFault("wide 2;", "rowpp;", 2);
        landFault("wide 2;row ", "ppcopies 2;", 2);
        landFault("wide 2;row p", " p;", 2, "wide 2;row ".length());
        landFault("wide ", "22;", 4);
        landFault("wide 2 ", "2;", 2);
        landFault(GOOD + "rise 0", "0 by 1;", 2, (GOOD + "rise 00 ").length());
        landFault(GOOD + "copies ", "12;", 4);
        landFault(GOOD + "copies 1 ", "2;", 2);

        words = "NUMBERS (1 to 4 digits); a NUMBER of 5 digits and more: at its first";
        for (String two : new String[] {"2", "02", "002", "0002"}) {
            landTaken("wide " + two + ";row pp;", 0);
            landTaken("wide " + two + ";row pp;rise 0000 0000 by 0009;", 0);
        }
        for (String long2 : new String[] {"00002", "000002", "12345", "99999", "2000000000", "4294967298", times(60, "7")}) {
            landFault("wide ", long2 + ";row pp;", 1);
            landFault(GOOD, long2 + ";", 1);
            landFault(GOOD + "company ", long2, 1);
        }
        landFault("wide ", "9999;", 4);
        landFault("wide ", "0000;", 4);
        landFault(GOOD, "9999", 2);
        landFault("wide ", "00002", 1);

        words = "SIGNS ; < > =";
        for (String sign : new String[] {";", "<", ">", "="}) {
            landFault(GOOD, sign, 2);
            landFault("wide ", sign, 2);
            landFault(GOOD + "company ", sign, 2);
        }
        landFault("wide 2", "<row pp;", 2);
        landFault("wide 2;", ";row pp;", 2);
        ordersFault("home", "=", 2);
        ordersFault("home;", ";", 2);
    }

    private static void landFault(String good, String bad, int kind, int place) {
        landFault(good + bad, kind, place);
    }

    private static void cutTexts() {
        sentence(10, "2 it can't stand there (the end: the text's length)", null);
        int[] place = {0, 0, 0, 0, 4, 5, 6, 7, 7, 7, 10, 11, 11, 13};
        for (int n = 0; n < place.length; n++) {
            landFault(GOOD.substring(0, n), 2, place[n]);
            landFault(GOOD.substring(0, n) + " ", 2, n == 1 || n == 2 || n == 3 || n == 8 || n == 9 || n == 12 ? place[n] : n + 1);
        }
        landFault("  ", 2, 2);
        landFault(" \n \n", 2, 4);
        words = "The first n bytes of the tape are the LAND";
        for (int n = 0; n <= place.length; n++) {
            feed(GOOD + "row rr;");
            due("land(" + n + ")", x.land(n), n < place.length ? NONE : 0);
            due("fault(0)", x.fault(0), n < place.length ? 2 : 0);
            due("fault(1)", x.fault(1), n < place.length ? place[n] : NONE);
        }
        due("the row behind was not read", x.many(1), 1);
    }

    // ---- each TOKEN of a right text in turn replaced, or the text cut ahead of it

    /** Its text and its part: a fixed one, a NUMBER (or one of up to 4 digits), LETTERS, a NAME, what compares, a by that need not be. */
    private record Token(String text, char part) {
        static List<Token> of(String texts, String parts) {
            List<Token> tokens = new ArrayList<>();
            String[] split = texts.split(" ");
            for (int i = 0; i < split.length; i++) {
                tokens.add(new Token(split[i], parts.charAt(i)));
            }
            if (split.length != parts.length()) {
                throw new IllegalArgumentException(split.length + " and " + parts.length());
            }
            return tokens;
        }
    }

    private static String join(List<Token> tokens, int from, int to) {
        StringBuilder text = new StringBuilder();
        for (int i = from; i < to; i++) {
            text.append(tokens.get(i).text).append(' ');
        }
        return text.toString();
    }

    private static void wrongTokens() {
        List<Token> land = Token.of("wide 3 ; row prh ; row wfp ; rise 2 1 by 9 ; copies 2 ; company ann at 0 0 to 2 1 by 1 ;"
            + " company bob at 1 1 to 1 1 ; rise 0 0 by 0 ;", "knkklkklkknnknkknkkvknnknnbnkkvknnknnkknnknk");
        List<Token> orders = Token.of("bite 1 at 2 1 ; mould 0 ; honey 0 at 0 0 ; steam 0 to 1 ; mouse 1 by 12 ; march ann ; home ;"
            + " when eaten 0 at 1 1 ; home ; end ; when arrives ann ; end ; when crumbs < 9999 ; stop ; end ; loop 99 ; end ; stop ;",
            "knknnkknkknknnkknknkknknkkvkkkkknknnkkkkkkkvkkkkkqckkkkkknkkkkk");
        sentence(10, "2 it can't stand there", null);
        landTaken(join(land, 0, land.size()), 2);
        fresh(11, join(land, 0, land.size()));
        ordersTaken(join(orders, 0, orders.size()), 14);
        for (int i = 0; i < land.size(); i++) {
            String ahead = join(land, 0, i);
            String behind = join(land, i + 1, land.size());
            char part = land.get(i).part;
            promise = 10;
            for (String unknown : new String[] {"?", "A", ",", "-1", "12345", "\t", "\u00e4"}) {
                landFault(ahead, unknown + " " + behind, 1);
            }
            for (String nowhere : new String[] {"<", ">", "=", "stop", "wide2", "abcdefghi"}) {
                landFault(ahead, (i == 0 && nowhere.equals("wide2") ? "wid" : nowhere) + " " + behind, 2);
            }
            landFault(ahead, "7777 " + behind, part == 'n' ? 4 : 2);
            if (part != 'v') {
                landFault(ahead, "zz " + behind, 2);
            }
            if (part == 'b') {
                landFault(ahead + "; ", behind, 2);
            } else if (!land.get(i).text.equals(";")) {
                landFault(ahead, "; " + behind, 2);
            }
            boolean whole = i >= 6 && land.get(i - 1).text.equals(";");
            if (whole) {
                landTaken(ahead, ahead.contains("bob") ? 2 : ahead.contains("ann") ? 1 : 0);
            } else {
                landFault(ahead, "", 2);
                landFault(ahead + " \n ", "", 2);
            }
        }
        wrongOrderTokens(land, orders);
    }

    private static void wrongOrderTokens(List<Token> land, List<Token> orders) {
        fresh(11, join(land, 0, land.size()));
        int depth = 0;
        for (int i = 0; i < orders.size(); i++) {
            String ahead = join(orders, 0, i);
            String behind = join(orders, i + 1, orders.size());
            char part = orders.get(i).part;
            for (String unknown : new String[] {"?", "A", ",", "-1", "12345", "\r", "\u00ff"}) {
                ordersFault(ahead, unknown + " " + behind, 1);
            }
            for (String nowhere : new String[] {"wide", "row", "rise", "copies", "company", "abcdefghi"}) {
                ordersFault(ahead, nowhere + " " + behind, 2);
            }
            if (part != 'c') {
                ordersFault(ahead, "7777 " + behind, part == 'n' ? 4 : 2);
            }
            if (part != 'q') {
                ordersFault(ahead, "< " + behind, 2);
            }
            ordersFault(ahead, "zz " + behind, part == 'v' ? 3 : 2);
            if (!orders.get(i).text.equals(";")) {
                ordersFault(ahead, "; " + behind, 2);
            }
            if (depth == 0 && (i == 0 || orders.get(i - 1).text.equals(";"))) {
                ordersTaken(ahead, stepsIn(orders, i));
            } else {
                ordersFault(ahead, "", 2);
                ordersFault(ahead + "\n ", "", 2);
            }
            String text = orders.get(i).text;
            depth += text.equals("when") || text.equals("loop") ? 1 : text.equals("end") ? -1 : 0;
        }
    }

    private static int stepsIn(List<Token> orders, int to) {
        int steps = 0;
        for (int i = 0; i < to; i++) {
            boolean begins = i == 0 || orders.get(i - 1).text.equals(";");
            steps += begins && !orders.get(i).text.equals("end") ? 1 : 0;
        }
        return steps;
    }

    // ---- a LAND

    private static void wide() {
        sentence(10, "WIDE: 2 to 8", null);
        for (int wide = 0; wide <= 11; wide++) {
            String letters = times(wide, "r");
            if (wide >= 2 && wide <= 8) {
                landTaken("wide " + wide + ";row " + letters + ";", 0);
                due("wide", x.many(0), wide);
                due("rows", x.many(1), 1);
                due("the last cell", x.ground(wide - 1, 0, 0), 1);
                refused("the cell behind it", x.ground(wide, 0, 0), 2);
                words = "as many as it is WIDE";
                for (int other = 1; other <= 10; other++) {
                    if (other != wide) {
                        landFault("wide " + wide + ";row ", times(other, "r") + ";", 2);
                    }
                }
            } else {
                words = "WIDE: 2 to 8";
                landFault("wide ", wide + ";row " + letters + ";", 4);
            }
        }
        words = "a WORD of letters p, r, h, w, f alone";
        for (char c = 'a'; c <= 'z'; c++) {
            int letter = "prhwf".indexOf(c);
            for (int at = 0; at < 3; at++) {
                StringBuilder row = new StringBuilder("ppp");
                row.setCharAt(at, c);
                if (letter >= 0) {
                    landTaken("wide 3;row " + row + ";", 0);
                    due("the letter " + c, x.ground(at, 0, 0), letter);
                } else {
                    landFault("wide 3;row ", row + ";", 2);
                }
            }
        }
        landFault("wide 3;row ", "row;", 2);
        landFault("wide 2;row ", "by;", 2);
    }

    private static void rows() {
        sentence(10, "1 to 6 ROWS; 6 a seventh row", null);
        String text = "wide 2;";
        landFault(text, "", 2);
        landFault(text, "copies 2;", 2);
        for (int rows = 1; rows <= 6; rows++) {
            text += rows == 6 ? "row hh;" : "row pp;";
            landTaken(text, 0);
            due("rows", x.many(1), rows);
            due("the last cell", x.ground(1, rows - 1, 0), rows == 6 ? 2 : 0);
            refused("the cell below it", x.ground(1, rows, 0), 2);
        }
        landFault(text, "row pp;", 6);
        landFault(text, "row", 6);
        landFault(text, "row ppp;", 6);
        landFault(text, "row 12345;", 6);
        landFault(text, "row ?", 6);
        words = "a PART, or the end, ahead of the first row; a row behind a PART";
        for (String part : new String[] {"rise 0 0 by 1;", "copies 2;", "company a at 0 0 to 0 0;"}) {
            landFault("wide 2;", part, 2);
            landFault("wide 2;", part + "row pp;", 2);
            landFault(GOOD + part, "row pp;", 2);
            landFault(text + part, "row pp;", 2);
            landTaken(text + part, part.startsWith("company") ? 1 : 0);
        }
        landFault("", "row pp;wide 2;", 2);
        landFault("wide 2;", "wide 2;row pp;", 2);
        landFault(GOOD, "wide 2;", 2);
    }

    private static void rises() {
        sentence(10, "It RISES: so much (0 to 9; told twice: the latest)", null);
        String land = "wide 3;row phw;row rff;";
        for (int rise = 0; rise <= 9; rise++) {
            landTaken(land + "rise 2 1 by " + rise + ";rise 2 0 by " + rise + ";rise 1 0 by " + rise + ";", 0);
            due("it rises", x.ground(2, 1, 2), rise);
            due("a ford's cost", x.ground(2, 1, 1), 3 + rise);
            due("a hill's cost", x.ground(1, 0, 1), 4 + rise);
            due("a hill's crumbs", x.ground(1, 0, 3), 4 + rise);
            due("water's crumbs", x.ground(2, 0, 3), 5 + rise);
            due("that beside does not", x.ground(1, 1, 2), 0);
            due("that beside costs", x.ground(1, 1, 1), 3);
            landTaken(land + "rise 0 0 by 5;rise 0 0 by " + rise + ";", 0);
            due("the latest", x.ground(0, 0, 2), rise);
        }
        landFault(land + "rise 2 1 by ", "10;", 4);
        landFault(land + "rise 2 1 by ", "9999;", 4);
        landFault(land + "rise ", "3 0 by 1;", 4);
        landFault(land + "rise 2 ", "2 by 1;", 4);
        landFault(land + "rise ", "3 2 by 10;", 4);
        landFault(land + "rise ", "9999 0 by 1;", 4);
        landFault(land + "rise 0 ", "9999 by 1;", 4);
        landTaken("wide 8;" + times(6, "row pppppppp;") + "rise 7 5 by 9;", 0);
        landFault("wide 8;" + times(6, "row pppppppp;") + "rise ", "8 5 by 9;", 4);
        landFault("wide 8;" + times(6, "row pppppppp;") + "rise 7 ", "6 by 9;", 4);
        words = "a LAND that is taken: what RISES was told anew";
        landTaken(land, 0);
        due("nothing rises", x.ground(2, 1, 2) + x.ground(0, 0, 2), 0);
    }

    private static void copies() {
        sentence(10, "COPIES: 1 to 3 (1 without)", null);
        landTaken(GOOD, 0);
        due("1 without", x.many(2), 1);
        for (int copies = 1; copies <= 3; copies++) {
            landTaken(GOOD + "copies " + copies + ";", 0);
            due("copies", x.many(2), copies);
            due("the last one", x.cell(copies - 1, 1, 0), 0);
            refused("the one behind it", x.cell(copies, 1, 0), 2);
        }
        landFault(GOOD + "copies ", "0;", 4);
        landFault(GOOD + "copies ", "4;", 4);
        landFault(GOOD + "copies ", "9999;", 4);
        words = "5 copies told already (at that WORD)";
        for (int copies = 1; copies <= 3; copies++) {
            landFault(GOOD + "copies " + copies + ";", "copies 1;", 5);
            landFault(GOOD + "copies " + copies + ";", "copies", 5);
            landFault(GOOD + "copies " + copies + ";rise 0 0 by 1;company a at 0 0 to 0 0;", "copies 9;", 5);
        }
        words = "of one TOKEN the least kind";
        landFault(GOOD + "copies 2;copies", "", 5, (GOOD + "copies 2;").length());
        landFault(GOOD + "copies 2 ", "copies 2;", 2);
        words = "by a COPY that there is not as told till then";
        String company = "company a at 0 0 to 1 0";
        landTaken(GOOD + company + ";", 1);
        due("0 without", x.company(0, 4), 0);
        landTaken(GOOD + company + " by 0;", 1);
        landFault(GOOD + company + " by ", "1;", 4);
        landFault(GOOD + company + " by ", "1;copies 2;", 4);
        for (int copies = 1; copies <= 3; copies++) {
            landTaken(GOOD + "copies " + copies + ";" + company + " by " + (copies - 1) + ";", 1);
            due("by the last one", x.company(0, 4), copies - 1);
            landFault(GOOD + "copies " + copies + ";" + company + " by ", copies + ";", 4);
            landTaken(GOOD + company + " by 0;copies " + copies + ";company b at 0 0 to 0 0 by " + (copies - 1) + ";", 2);
        }
    }

    private static String companies(int many) {
        StringBuilder text = new StringBuilder();
        for (int i = 0; i < many; i++) {
            text.append("company ").append((char) ('a' + i)).append(" at 0 0 to 1 0;");
        }
        return text.toString();
    }

    private static void companies() {
        sentence(10, "COMPANIES, at most 6; 6 a seventh company", null);
        for (int many = 0; many <= 6; many++) {
            landTaken(GOOD + companies(many), many);
            due("companies", x.many(3), many);
            refused("the one behind the last", x.company(many, 0), 2);
        }
        String six = GOOD + companies(6);
        landFault(six, "company g at 0 0 to 0 0;", 6);
        landFault(six, "company a at 0 0 to 0 0;", 6);
        landFault(six, "company", 6);
        landFault(six, "company abcdefghi", 6);
        landFault(six, "company 12345", 6);
        landTaken(six + "rise 0 0 by 1;copies 3;", 6);

        sentence(10, "4 a NUMBER that can't be (no such CELL)", null);
        String land = "wide 3;row ppp;row ppw;";
        landTaken(land + "company a at 2 1 to 0 0;company b at 0 0 to 2 1;company c at 1 1 to 1 1;", 3);
        due("at", x.company(0, 0) * 10 + x.company(0, 1), 21);
        due("to", x.company(1, 2) * 10 + x.company(1, 3), 21);
        due("it costs nothing yet", x.company(0, 5), 0);
        landFault(land + "company a at ", "3 1 to 0 0;", 4);
        landFault(land + "company a at 2 ", "2 to 0 0;", 4);
        landFault(land + "company a at ", "3 2 to 0 0;", 4);
        landFault(land + "company a at 0 0 to ", "3 1;", 4);
        landFault(land + "company a at 0 0 to 2 ", "2;", 4);
        landFault(land + "company a at 0 0 to 2 ", "9999;", 4);
        landFault(land + "company a at ", "9999 0 to 0 0;", 4);
    }

    private static void names() {
        sentence(10, "NAME: a WORD of 1 to 8 letters", null);
        String at = " at 0 0 to 0 0;";
        for (int letters = 1; letters <= 12; letters++) {
            if (letters <= 8) {
                landTaken(GOOD + "company " + times(letters, "z") + at, 1);
                ordersTaken("march " + times(letters, "z") + ";", 1);
            } else {
                landFault(GOOD + "company ", times(letters, "z") + at, 2);
            }
        }
        words = "that is none of wide, row, ..";
        for (String word : RESERVED) {
            landFault(GOOD + "company ", word + at, 2);
            if (word.length() < 8) {
                landTaken(GOOD + "company " + word + "s" + at, 1);
                landTaken(GOOD + "company x" + word + at, 1);
            }
            landTaken(GOOD + "company " + word.substring(0, word.length() - 1) + at, 1);
        }
        landTaken(GOOD + "company p at 0 0 to 0 0;company prhwf at 0 0 to 0 0;", 2);

        words = "3 a NAME that is taken";
        landFault(GOOD + "company a" + at + "company ", "a" + at, 3);
        landFault(GOOD + "company a" + at + "company ", "a", 3);
        landFault(GOOD + "company a" + at + "company b" + at + "company c" + at + "company ", "b" + at, 3);
        landFault(GOOD + "company abcdefgh" + at + "company ", "abcdefgh" + at, 3);
        landTaken(GOOD + "company a" + at + "company aa" + at + "company aaa" + at, 3);
        landTaken(GOOD + "company abcdefgh" + at + "company bbcdefgh" + at + "company abcdefgi" + at + "company abcdefg" + at
            + "company bcdefgh" + at + "company hgfedcba" + at, 6);
        landFault(GOOD + "company a" + at + "company ", "a to 9 9", 3);
        words = "a NAME that a LAND ahead had is not taken";
        landTaken(GOOD + "company a" + at, 1);
        landTaken(GOOD + "company a" + at, 1);
    }

    private static void firstAlongTheText() {
        sentence(10, "FAULTS, the first along the text (of one TOKEN the least kind)", null);
        landFault("wide ", "9;row ?;", 4);
        landFault("wide 2;row ", "ppp;copies 9;", 2);
        landFault(GOOD + "rise ", "5 5 by 55;", 4);
        landFault(GOOD + "rise 0 ", "5 by 55555;", 4);
        landFault(GOOD + "rise ", "x ?", 2);
        landFault(GOOD + "rise ", "? x", 1);
        landFault(GOOD, "? copies", 1);
        landFault(GOOD + "copies ", "9;copies 1;", 4);
        words = "of one TOKEN the least kind";
        String six = "wide 2;" + times(6, "row pp;");
        landFault(six + "rise 0 0 by 0;", "row pp;", 2);
        landFault(six + "copies 1;", "row", 2);
        landFault(GOOD + companies(6) + "rise 0 0 ", "company", 2);
        landFault(GOOD + "copies 1;rise 0 0 ", "copies 1;", 2);
        landFault(GOOD + "company ", "company", 2);
        landFault(GOOD + "company a at 0 0 to 0 0;company ", "copies", 2);
    }

    private static void landTaken() {
        sentence(10, "all COPIES are whole, all COMPANIES where they were told, no CRUMBS were eaten, there are no ORDERS", null);
        String text = "wide 3;row prh;row fpp;copies 2;company a at 0 0 to 2 1;company b at 2 1 to 0 0 by 1;";
        for (int turn = 0; turn < 2; turn++) {
            landTaken(text, 2);
            for (int cell = 0; cell < 12; cell++) {
                due("cell", x.cell(cell / 6, cell % 3, cell / 3 % 2), 0);
            }
            due("eaten", x.many(4), 0);
            due("left", x.many(5), 28);
            due("a", x.company(0, 0) + x.company(0, 1) + x.company(0, 4) + x.company(0, 5), 0);
            due("b", x.company(1, 0) * 100 + x.company(1, 1) * 10 + x.company(1, 4), 211);
            refused("run", x.run(0), 8);
            x.bite(0, 1, 0);
            x.bite(1, 2, 0);
            x.mould(0, 1, 1);
            x.honey(1, 0, 1);
            x.march(0);
            x.hand(1, 0);
            ordersTaken("march b;mouse 1 by 12;mould 0;mould 1;", 4);
            x.run(11);
        }
        words = "A LAND that is taken is there in place of that ahead";
        landTaken("wide 2;row ww;", 0);
        due("wide", x.many(0), 2);
        due("rows", x.many(1), 1);
        due("copies", x.many(2), 1);
        due("companies", x.many(3), 0);
        refused("no such cell", x.ground(2, 0, 0), 2);
        refused("no such copy", x.cell(1, 0, 0), 2);
        refused("no such company", x.company(0, 0), 2);
        due("reach", x.reach(), 0);
    }

    // ---- the tape

    private static void tapeLengths() {
        sentence(10, "A LAND is a TEXT of at most 900 bytes", null);
        StringBuilder longest = new StringBuilder("wide 2;row pw;");
        while (longest.length() + 14 <= 884) {
            longest.append("rise 0 0 by ").append(longest.length() % 10).append(';');
        }
        longest.append("rise 1 0 by ");
        while (longest.length() < 898) {
            longest.append(' ');
        }
        longest.append("7;");
        due("bytes", longest.length(), 900);
        landTaken(longest.toString(), 0);
        due("the last one was read", x.ground(1, 0, 2), 7);
        landFault(longest.substring(0, 899), "", 2);
        landFault(longest.substring(0, 899), "?", 1);
        landFault(longest.substring(0, 899), "=", 2);
        landTaken(GOOD + times(886, "\n"), 0);
        landFault(times(900, " "), "", 2);
        landFault("", times(900, ";"), 2);
        landFault("", times(900, "a"), 2);
        landFault("", times(900, "9"), 1);
        landFault("", times(900, "\u00ff"), 1);

        sentence(9, "the highest of each int first", null);
        due("feed", x.feed(0x77696465, 0x20323b72, 0x6f772070, 0x723b2020, 0x20202020), 20);
        due("land", x.land(20), 0);
        due("a road", x.ground(1, 0, 0), 1);
        due("feed", x.feed(0x77696465, 0x20323b72, 0x6f772070, 0x723bffff, 0xffffffff), 20);
        due("land", x.land(14), 0);

        sentence(11, "ORDERS are a TEXT of at most 300 bytes; 5: above 300, too", null);
        ordersTaken("home" + times(295, " ") + ";", 1);
        due("run", x.run(0), 1);
        ordersFault(times(299, " "), "?", 1);
        ordersTaken(times(300, " "), 0);
        ordersFault("home" + times(296, " "), "", 2);
        feed(times(300, " ") + "?");
        refused("301 bytes", x.orders(301), 5);
        taken("300 bytes, the one behind is not read", x.orders(300), 0);
        feed("home;");
        refused("-1 bytes", x.orders(-1), 5);
        refused("21 of 20 bytes", x.orders(21), 5);
        taken("20 of 20 bytes", x.orders(20), 1);
        refused("1 of none", x.orders(1), 5);
        taken("none of none", x.orders(0), 0);
    }

    // ---- ORDERS

    private static final String THREE = "wide 3;row ppp;row ppp;copies 2;company ann at 0 0 to 2 1;company abcdefgh at 0 0 to 0 0 by 1;";

    private static void orderNumbers() {
        sentence(11, "4 a NUMBER that can't be: a COPY, a CELL", THREE);
        for (String word : new String[] {"bite ", "honey ", "when eaten "}) {
            String end = word.startsWith("when") ? ";end;" : ";";
            ordersTaken(word + "0 at 0 0" + end, 1);
            ordersTaken(word + "1 at 2 1" + end, 1);
            ordersFault(word, "2 at 2 1" + end, 4);
            ordersFault(word, "9999 at 2 1" + end, 4);
            ordersFault(word + "1 at ", "3 1" + end, 4);
            ordersFault(word + "1 at 2 ", "2" + end, 4);
            ordersFault(word + "1 at ", "3 2" + end, 4);
            ordersFault(word + "1 at ", "12345 2" + end, 1);
        }
        ordersTaken("mould 0;mould 1;", 2);
        ordersFault("mould ", "2;", 4);
        for (int copy = 0; copy < 2; copy++) {
            ordersTaken("steam " + copy + " to 0;steam " + copy + " to 1;", 2);
            ordersFault("steam " + copy + " to ", "2;", 4);
        }
        ordersFault("steam ", "2 to 0;", 4);
        words = "mouse: so many nights (0 to 12)";
        for (int nights = 0; nights <= 14; nights++) {
            if (nights <= 12) {
                ordersTaken("mouse 1 by " + nights + ";", 1);
            } else {
                ordersFault("mouse 1 by ", nights + ";", 4);
            }
        }
        ordersFault("mouse 1 by ", "9999;", 4);
        ordersFault("mouse ", "2 by 0;", 4);
        words = "loop n (1 to 99)";
        for (int n : new int[] {1, 2, 98, 99}) {
            ordersTaken("loop " + n + ";end;", 1);
        }
        for (int n : new int[] {0, 100, 101, 9999}) {
            ordersFault("loop ", n + ";end;", 4);
        }
        ordersTaken("loop 0099;end;", 1);
        ordersFault("loop ", "00099;end;", 1);
        words = "crumbs COMPARES NUMBER (0 to 9,999)";
        for (String sign : new String[] {"<", ">", "="}) {
            ordersTaken("when crumbs " + sign + " 0;end;", 1);
            ordersTaken("when crumbs" + sign + "9999;end;", 1);
            ordersFault("when crumbs " + sign, "10000;end;", 1);
            ordersFault("when crumbs " + sign, sign + "5;end;", 2);
            ordersFault("when crumbs " + sign, ";end;", 2);
        }
        ordersFault("when crumbs ", "5;end;", 2);
        ordersFault("when crumbs ", ";end;", 2);
        ordersFault("when ", "home;end;", 2);
        ordersFault("when ", "ann;end;", 2);
    }

    private static void orderNames() {
        sentence(11, "3 a NAME that is no COMPANY", THREE);
        for (String word : new String[] {"march ", "when arrives "}) {
            String end = word.startsWith("when") ? ";end;" : ";";
            ordersTaken(word + "ann" + end, 1);
            ordersTaken(word + "abcdefgh" + end, 1);
            for (String name : new String[] {"an", "annn", "nn", "a", "abcdefg", "bbcdefgh", "abcdefgg", "bob"}) {
                ordersFault(word, name + end, 3);
            }
            words = "a WORD of 9 letters and more where a NAME must stand; none of wide, row, ..";
            ordersFault(word, "abcdefghi" + end, 2);
            ordersFault(word, "abcdefghabcdefgh" + end, 2);
            for (String reserved : RESERVED) {
                ordersFault(word, reserved + end, 2);
            }
            ordersFault(word, "3" + end, 2);
            ordersFault(word, end, 2);
        }
        fresh(11, THREE);
        words = "a COMPANY of the LAND as it is";
        landTaken(GOOD + "company bob at 0 0 to 0 0;", 1);
        ordersFault("march ", "ann;", 3);
        ordersTaken("march bob;", 1);
        landTaken(GOOD, 0);
        ordersFault("march ", "bob;", 3);
    }

    private static void manySteps() {
        sentence(11, "6 a 31st STEP (at its WORD; end is none)", THREE);
        String[] steps = {"bite 0 at 0 0;", "mould 0;", "honey 0 at 0 0;", "steam 0 to 1;", "mouse 0 by 0;", "march ann;", "home;", "stop;",
            "when crumbs = 0;", "loop 2;"};
        for (int many = 29; many <= 30; many++) {
            ordersTaken(times(many, "home;"), many);
        }
        for (String step : steps) {
            boolean opens = step.startsWith("when") || step.startsWith("loop");
            ordersTaken(times(29, "home;") + step + (opens ? "end;" : ""), 30);
            ordersFault(times(30, "home;"), step, 6);
            ordersFault(times(30, "home;"), step.split("[ ;]")[0], 6);
            ordersFault(times(30, "home;"), step.split("[ ;]")[0] + " ?", 6);
        }
        ordersTaken(times(26, "loop 1;end;"), 26);
        ordersTaken("loop 1;" + times(29, "home;") + "end;", 30);
        ordersFault("loop 1;" + times(29, "home;"), "home;end;", 6);
        ordersTaken("loop 1;loop 1;loop 1;" + times(27, "home;") + "end;end;end;", 30);
        ordersFault("loop 1;loop 1;loop 1;" + times(27, "home;") + "end;end;end;", "home;", 6);
        words = "of one TOKEN the least kind";
        for (String other : new String[] {"end;", "wide;", "eaten;", "arrives;", "crumbs;", "ann;", ";", "5;", "at;", "row;"}) {
            ordersFault(times(30, "home;"), other, 2);
        }
        ordersFault(times(30, "home;"), "?", 1);
        ordersFault("loop 1;loop 1;loop 1;" + times(27, "home;"), "loop 1;", 6);
        ordersFault("loop 1;loop 1;loop 1;" + times(27, "home;"), "when crumbs = 0;", 6);
        ordersFault("loop 1;loop 1;loop 1;" + times(26, "home;"), "loop 1;", 7);
        words = "a text with 30 STEPS behind one with 30";
        ordersTaken(times(30, "stop;"), 30);
        ordersTaken(times(30, "stop;"), 30);
    }

    private static void deepSteps() {
        sentence(11, "7 a when, loop within three others (at its WORD)", THREE);
        String[] open = {"when crumbs = 0;", "loop 2;"};
        for (int i = 0; i < 8; i++) {
            String three = open[i & 1] + open[i >> 1 & 1] + open[i >> 2];
            ordersTaken(three + "home;end;end;end;", 4);
            ordersTaken(three + "end;" + open[i & 1] + "end;end;" + open[i & 1] + open[i & 1] + "end;end;end;", 6);
            for (String fourth : open) {
                ordersFault(three, fourth + "end;end;end;end;", 7);
                ordersFault(three + "home;", fourth, 7);
                ordersFault(three, fourth.substring(0, 4), 7);
                ordersFault(three, fourth.substring(0, 4) + " ?", 7);
                ordersFault(three + "end;" + open[i & 1], fourth, 7);
                ordersTaken(three + "end;" + fourth + "end;end;end;", 4);
                ordersTaken(three + "end;end;end;" + fourth + "end;", 4);
            }
        }
        ordersFault("loop 1;loop 1;loop 1;", "whens;", 2);
    }

    private static void ends() {
        sentence(11, "an end without a beginning; the text's end ahead of an end: 2", THREE);
        ordersFault("", "end;", 2);
        ordersFault("home;", "end;", 2);
        ordersFault("", "end", 2);
        for (int depth = 1; depth <= 3; depth++) {
            String begun = times(depth, "loop 1;");
            for (int closed = 0; closed < depth; closed++) {
                ordersFault(begun + times(closed, "end;"), "", 2);
                ordersFault(begun + times(closed, "end;") + " \n", "", 2);
                ordersFault(begun + "home;" + times(closed, "end;") + "home;", "", 2);
            }
            ordersTaken(begun + times(depth, "end;"), depth);
            ordersFault(begun + times(depth, "end;"), "end;", 2);
            ordersFault(begun + times(depth, "end;") + "home;", "end;", 2);
        }
        ordersFault("loop 1;end", "", 2);
        ordersFault("loop 1;end ", "home;", 2);
        words = "{STEP}: none at all";
        ordersTaken("", 0);
        ordersTaken("\n", 0);
        taken("run of no STEPS", x.run(0), 0);
    }

    private static void ordersOfTheLand() {
        sentence(11, "no such CELL, COPY of the LAND as it is", null);
        ordersTaken("bite 0 at 1 0;", 1);
        ordersFault("bite 0 at ", "2 0;", 4);
        ordersFault("bite 0 at 1 ", "1;", 4);
        ordersFault("mould ", "1;", 4);
        landTaken("wide 8;" + times(6, "row pppppppp;") + "copies 3;", 0);
        ordersTaken("bite 2 at 7 5;mould 2;steam 2 to 2;mouse 2 by 12;", 4);
        ordersFault("bite ", "3 at 7 5;", 4);
        ordersFault("bite 2 at ", "8 5;", 4);
        ordersFault("bite 2 at 7 ", "6;", 4);
        ordersFault("steam 2 to ", "3;", 4);
        ordersFault("mouse ", "3 by 0;", 4);
        words = "how many STEPS; 10: the old ones stay";
        taken("run", x.run(1), 4);
        due("it was bitten", x.cell(2, 7, 5), 1);
        words = "the ORDERS told latest are there in place of those ahead";
        ordersTaken("home;", 1);
        taken("run", x.run(1), 1);
        ordersTaken("", 0);
        taken("run", x.run(1), 0);
    }

    private static void faultTold() {
        sentence(12, "NONE for others, and ahead of any", null);
        for (int what : new int[] {0, 1, 2, 3, -1, Integer.MAX_VALUE, Integer.MIN_VALUE}) {
            due("fault(" + what + ")", x.fault(what), NONE);
        }
        refused("land(1)", x.land(1), 5);
        refused("orders(1)", x.orders(1), 5);
        due("with STATUS 5 none is told", x.fault(0), NONE);
        words = "Of the latest of these with STATUS 0 or 10";
        landFault(GOOD + "copies ", "7;", 4);
        for (int what : new int[] {2, -1, Integer.MAX_VALUE, Integer.MIN_VALUE}) {
            due("fault(" + what + ")", x.fault(what), NONE);
        }
        refused("land(1)", x.land(1), 5);
        refused("orders(-1)", x.orders(-1), 5);
        due("fault(0)", x.fault(0), 4);
        due("fault(1)", x.fault(1), 21);
        ordersTaken("home;", 1);
        refused("land(1)", x.land(1), 5);
        due("fault(0)", x.fault(0), 0);
        due("fault(1)", x.fault(1), NONE);
        ordersFault("home;", "x", 2);
        landTaken(GOOD, 0);
        ordersFault("", "loops", 2);
        due("a FAULT at place 0", x.fault(1), 0);
    }
}
