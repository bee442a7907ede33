import java.lang.reflect.Method;
import java.math.BigInteger;
import java.util.ArrayList;
import java.util.Arrays;
import java.util.Comparator;
import java.util.HashMap;
import java.util.HashSet;
import java.util.List;
import java.util.Map;
import java.util.Random;
import java.util.Set;
import java.util.regex.Matcher;
import java.util.regex.Pattern;

/**
 * Random runs of calls on a BreadMap and on a model of it that was written from the document alone, as
 * slow and plain as can be: every answer, STATUS, FRACTION and FAULT must be the same.
 */
public final class BreadMapAgainstModel {
    private static final int RUNS = 400;
    private static int wrong = 0;
    private static final Map<String, Integer> fineAnswers = new HashMap<>();

    public static void main(String[] args) throws Exception {
        int runs = args.length > 0 ? Integer.parseInt(args[0]) : RUNS;
        for (int run = 0; run < runs && wrong < 20; run++) {
            new Run(run).go();
        }
        for (Method m : BreadMap.class.getDeclaredMethods()) {
            if (java.lang.reflect.Modifier.isPublic(m.getModifiers()) && fineAnswers.getOrDefault(m.getName(), 0) < 5) {
                wrong++;
                System.out.println(m.getName() + " hardly ever answered with STATUS 0");
            }
        }
        System.out.println(wrong == 0 ? "all answers are the model's" : wrong + " answers are not the model's");
        if (wrong != 0) {
            System.exit(1);
        }
    }

    /** One run: at most 512 calls on one object. */
    private static final class Run {
        final int number;
        final Random random;
        final BreadMap real = new BreadMap();
        final Model model = new Model();
        final List<String> calls = new ArrayList<>();
        final List<Method> methods = new ArrayList<>();
        final Map<String, Method> ofModel = new HashMap<>();

        Run(int number) {
            this.number = number;
            this.random = new Random(number * 7919L + 13);
            for (Method m : BreadMap.class.getDeclaredMethods()) {
                if (java.lang.reflect.Modifier.isPublic(m.getModifiers())) {
                    methods.add(m);
                }
            }
            methods.sort(Comparator.comparing(Method::getName));
            for (Method m : Model.class.getDeclaredMethods()) {
                if (java.lang.reflect.Modifier.isPublic(m.getModifiers())) {
                    ofModel.put(m.getName(), m);
                }
            }
        }

        int roll(int n) {
            return random.nextInt(n);
        }

        void go() throws Exception {
            switch (number % 4) {
                case 0:
                    goTight();
                    return;
                case 1:
                    goMaze();
                    return;
                default:
                    goAnywhere();
            }
        }

        /** Few CELLS and many COMPANIES: hardly a bite does not matter, so pairs of them do. */
        void goTight() throws Exception {
            while (calls.size() < 420 && wrong < 20) {
                text("land", Texts.tight(random));
                for (int i = roll(3); i > 0; i--) {
                    call(method(roll(2) == 0 ? "bite" : "mould"), 0, roll(model.land.wide), roll(model.land.rows));
                }
                for (int what = 0; what < 4; what++) {
                    call(method("supper"), 0, 2, what);
                    call(method("supper"), 0, 1, what);
                    call(method("mostWorth"), 0, what);
                    call(method("worth"), 0, roll(model.land.wide), roll(model.land.rows));
                }
            }
        }

        /** Many CELLS, some of which are shut: rows through them get in one another's way. */
        void goMaze() throws Exception {
            while (calls.size() < 330 && wrong < 20) {
                text("land", Texts.maze(random));
                for (int i = roll(12); i > 0; i--) {
                    call(method(roll(3) == 0 ? "mould" : "bite"), 0, roll(model.land.wide), roll(model.land.rows));
                }
                for (int company = 0; company < model.land.companies.size(); company++) {
                    call(method("cut"), company);
                    call(method("way"), company);
                    for (int k = 1; k < 7; k++) {
                        call(method("wayAt"), k, roll(2));
                    }
                    call(method("truly"), company);
                    call(method("best"), company);
                }
            }
        }

        void goAnywhere() throws Exception {
            if (roll(10) > 0) {
                text("land", Texts.land(random, roll(4) == 0));
            }
            while (calls.size() < 470 && wrong < 20) {
                int what = roll(40);
                if (what == 0) {
                    text("land", Texts.land(random, roll(3) == 0));
                } else if (what <= 2) {
                    text("orders", Texts.orders(random, model, roll(4) == 0));
                } else {
                    anyCall();
                }
            }
        }

        void text(String name, String text) throws Exception {
            byte[] bytes = text.getBytes("ISO-8859-1");
            int padded = (bytes.length + 19) / 20 * 20;
            if (model.tape.length() + padded > 900 || calls.size() + padded / 20 > 500) {
                call(method(name), name.equals("land") ? 901 : 301);
                call(method(name), 0);
                return;
            }
            if (model.tape.length() > 0) {
                call(method("land"), 0);
            }
            bytes = Arrays.copyOf(bytes, padded);
            for (int i = text.length(); i < padded; i++) {
                bytes[i] = 32;
            }
            for (int i = 0; i < padded; i += 20) {
                Object[] five = new Object[5];
                for (int k = 0; k < 5; k++) {
                    five[k] = java.nio.ByteBuffer.wrap(bytes, i + 4 * k, 4).getInt();
                }
                call(method("feed"), five);
            }
            call(method(name), roll(30) == 0 ? text.length() + roll(30) - 5 : text.length());
            call(method("fault"), 0);
            call(method("fault"), 1);
            call(method("fault"), roll(5) - 2);
        }

        Method method(String name) {
            for (Method m : methods) {
                if (m.getName().equals(name)) {
                    return m;
                }
            }
            throw new IllegalStateException(name);
        }

        void anyCall() throws Exception {
            Method m = methods.get(roll(methods.size()));
            String name = m.getName();
            if (name.equals("land") || name.equals("orders") || name.equals("feed") && roll(3) > 0) {
                return;
            }
            if (name.equals("told") && roll(2) == 0) {
                fillTray();
            }
            Object[] args = new Object[m.getParameterCount()];
            for (int i = 0; i < args.length; i++) {
                args[i] = m.getParameterTypes()[i] == long.class ? (Object) anyLong() : (Object) argument(name, i);
            }
            call(m, args);
        }

        /** Numbers that add up to what is BITTEN, so that there are ways at all. */
        void fillTray() throws Exception {
            int copy = roll(model.land.copies);
            int bitten = 0;
            for (int[] row : model.land.state[copy]) {
                for (int how : row) {
                    bitten += how == 1 ? 1 : 0;
                }
            }
            call(method("tray"), 1, 1 + roll(3), 5 + roll(3));
            int[] parts = new int[5];
            for (int i = 0; i < bitten; i++) {
                parts[roll(5)]++;
            }
            for (int i = 0; i < 5; i++) {
                call(method("write"), 1, i, (long) parts[i]);
            }
            call(method("told"), copy, 1);
        }

        long anyLong() {
            switch (roll(4)) {
                case 0:
                    return random.nextLong();
                case 1:
                    return random.nextInt();
                case 2:
                    return 127 + roll(4) * 32768L;
                default:
                    return roll(60) - 5;
            }
        }

        int argument(String name, int i) {
            if (roll(60) == 0) {
                int[] wild = {Integer.MAX_VALUE, Integer.MIN_VALUE, -1, 100000, Integer.MAX_VALUE - 1, 900, 61};
                return wild[roll(wild.length)];
            }
            Model.L l = model.land;
            boolean edge = roll(12) == 0;
            switch (name + i) {
                case "tray0": case "write0": case "read0": case "pour0": case "pour2": case "told1":
                    return edge ? roll(6) - 1 : roll(2);
                case "tray1":
                    return edge ? roll(6) - 1 : roll(4);
                case "tray2":
                    return edge ? roll(64) - 1 : roll(9);
                case "write1": case "read1": case "pour1": case "pour3":
                    return edge ? roll(64) - 2 : roll(6);
                case "pour4":
                    return edge ? roll(64) - 2 : roll(4);
                case "feed0": case "feed1": case "feed2": case "feed3": case "feed4":
                    return random.nextInt();
                case "bite0": case "mould0": case "honey0": case "clean0": case "steam0": case "steam1": case "unlike0":
                case "unlike1": case "count0": case "hole0": case "cell0": case "shows0": case "hand1": case "seen1":
                case "supper0": case "worth0": case "mostWorth0": case "told0": case "halves0": case "halves1":
                    return edge ? roll(5) - 1 : roll(l.copies);
                case "ground0": case "odds0": case "odds2": case "mean0": case "bite1": case "mould1": case "honey1":
                case "clean1": case "cell1": case "shows1": case "worth1":
                    return edge ? roll(10) - 1 : roll(l.wide);
                case "ground1": case "odds1": case "odds3": case "mean1": case "bite2": case "mould2": case "honey2":
                case "clean2": case "cell2": case "shows2": case "worth2":
                    return edge ? roll(8) - 1 : roll(l.rows);
                case "company0": case "way0": case "march0": case "truly0": case "best0": case "hand0": case "seen0":
                case "cut0": case "arrivals0":
                    return edge || l.companies.isEmpty() ? roll(8) - 1 : roll(l.companies.size());
                case "supper1":
                    return edge ? roll(5) - 1 : 1 + roll(2);
                case "wayAt0":
                    return roll(9) - 1;
                case "wayAt1": case "halves2": case "mostWorth1":
                    return edge ? roll(4) - 1 : roll(2);
                case "odds4":
                    return edge ? roll(16) - 1 : roll(13);
                case "mean2":
                    return edge ? roll(12) - 1 : roll(5);
                case "run0":
                    return edge ? 9990 + roll(20) : roll(10000);
                case "arrivals1":
                    return edge ? 9975 + roll(30) : roll(10000);
                case "arrivals2":
                    return edge ? roll(23) - 1 : 1 + roll(20);
                default:
                    return roll(8) - 1;
            }
        }

        void call(Method m, Object... args) throws Exception {
            String said = m.getName() + Arrays.toString(args);
            calls.add(said);
            String due = tell(ofModel.get(m.getName()).invoke(model, args), model.status(), model.top(), model.bottom());
            Object answer;
            try {
                answer = m.invoke(real, args);
            } catch (java.lang.reflect.InvocationTargetException e) {
                answer = e.getCause();
            }
            String got = tell(answer, real.status(), real.top(), real.bottom());
            if (real.status() == 0) {
                fineAnswers.merge(m.getName(), 1, Integer::sum);
            }
            if (!got.equals(due)) {
                wrong++;
                System.out.println("run " + number + ", call " + calls.size() + " " + said + ": " + got + ", due is " + due);
            }
        }

        static String tell(Object answer, int status, long top, long bottom) {
            return answer + " status " + status + " fraction " + top + "/" + bottom;
        }
    }

    /** Texts that are mostly right. */
    private static final class Texts {
        static String blank(Random r) {
            return r.nextInt(6) == 0 ? new String[] {"\n", "  ", " \n "}[r.nextInt(3)] : " ";
        }

        static String land(Random r, boolean spoil) {
            boolean small = r.nextInt(3) > 0;
            int wide = small ? 2 + r.nextInt(3) : 2 + r.nextInt(7);
            int rows = small ? 1 + r.nextInt(3) : 1 + r.nextInt(6);
            List<String> parts = new ArrayList<>();
            parts.add("wide " + wide);
            String letters = r.nextInt(3) == 0 ? "prhwf" : r.nextInt(2) == 0 ? "pprf" : "ppprrrhhfffw";
            for (int y = 0; y < rows; y++) {
                StringBuilder row = new StringBuilder("row ");
                for (int x = 0; x < wide; x++) {
                    row.append(letters.charAt(r.nextInt(letters.length())));
                }
                parts.add(row.toString());
            }
            int copies = 1;
            if (r.nextInt(4) > 0) {
                copies = 1 + r.nextInt(3);
                parts.add("copies " + copies);
            }
            int rises = r.nextInt(4);
            for (int i = 0; i < rises; i++) {
                parts.add("rise " + r.nextInt(wide) + " " + r.nextInt(rows) + " by " + r.nextInt(10));
            }
            int companies = r.nextInt(7);
            String[] names = {"a", "bo", "cat", "dora", "abcdefgh", "zzzzzzzz"};
            for (int i = 0; i < companies; i++) {
                parts.add("company " + names[i] + " at " + r.nextInt(wide) + " " + r.nextInt(rows) + " to " + r.nextInt(wide)
                    + " " + r.nextInt(rows) + (r.nextInt(2) == 0 ? " by " + r.nextInt(copies) : ""));
            }
            return join(r, parts, spoil);
        }

        static String tight(Random r) {
            int wide = 2 + r.nextInt(3);
            int rows = wide == 4 ? 2 : 2 + r.nextInt(2);
            StringBuilder text = new StringBuilder(rows(r, wide, rows, "pprrhf"));
            int companies = 1 + r.nextInt(3);
            for (int i = 0; i < companies; i++) {
                text.append(company(r, i, wide, rows));
            }
            return text.toString();
        }

        static String maze(Random r) {
            int wide = 5 + r.nextInt(4);
            int rows = 4 + r.nextInt(3);
            StringBuilder text = new StringBuilder(rows(r, wide, rows, r.nextInt(2) == 0 ? "pprrrrrrw" : "ppppppw"));
            for (int i = 0; i < 6; i++) {
                text.append(company(r, i, wide, rows));
            }
            return text.toString();
        }

        static String rows(Random r, int wide, int rows, String letters) {
            StringBuilder text = new StringBuilder("wide " + wide + ";");
            for (int y = 0; y < rows; y++) {
                text.append("row ");
                for (int x = 0; x < wide; x++) {
                    text.append(letters.charAt(r.nextInt(letters.length())));
                }
                text.append(';');
            }
            return text.toString();
        }

        static String company(Random r, int i, int wide, int rows) {
            return "company " + "abcdef".charAt(i) + " at " + r.nextInt(wide) + " " + r.nextInt(rows) + " to " + r.nextInt(wide) + " "
                + r.nextInt(rows) + ";";
        }

        static String orders(Random r, Model model, boolean spoil) {
            List<String> parts = new ArrayList<>();
            int open = 0;
            int steps = r.nextInt(r.nextInt(4) == 0 ? 31 : 14);
            for (int i = 0; i < steps; i++) {
                if (open > 0 && r.nextInt(3) == 0) {
                    parts.add("end");
                    open--;
                }
                String step = step(r, model, open < 3);
                open += step.startsWith("when") || step.startsWith("loop") ? 1 : 0;
                parts.add(step);
            }
            for (; open > 0; open--) {
                parts.add("end");
            }
            String text = join(r, parts, spoil);
            return text.length() <= 300 ? text : orders(r, model, spoil);
        }

        static String step(Random r, Model model, boolean mayOpen) {
            Model.L l = model.land;
            String cell = r.nextInt(l.wide) + " " + r.nextInt(l.rows);
            String copy = "" + r.nextInt(l.copies);
            String name = l.companies.isEmpty() ? "a" : l.companies.get(r.nextInt(l.companies.size())).name;
            switch (r.nextInt(mayOpen ? 14 : 10)) {
                case 0:
                    return "bite " + copy + " at " + cell;
                case 1:
                    return "mould " + copy;
                case 2:
                    return "honey " + copy + " at " + cell;
                case 3:
                    return "steam " + copy + " to " + r.nextInt(l.copies);
                case 4:
                    return "mouse " + copy + " by " + r.nextInt(13);
                case 5: case 6: case 7:
                    return l.companies.isEmpty() ? "mould " + copy : "march " + name;
                case 8:
                    return "home";
                case 9:
                    return r.nextInt(4) == 0 ? "stop" : "bite " + copy + " at " + cell;
                case 10:
                    return "when eaten " + copy + " at " + cell;
                case 11:
                    return l.companies.isEmpty() ? "loop 2" : "when arrives " + name;
                case 12:
                    return "when crumbs " + "<>=".charAt(r.nextInt(3)) + " " + r.nextInt(30);
                default:
                    return "loop " + (r.nextInt(3) == 0 ? 1 + r.nextInt(99) : 1 + r.nextInt(5));
            }
        }

        static String join(Random r, List<String> parts, boolean spoil) {
            StringBuilder text = new StringBuilder();
            for (String part : parts) {
                text.append(part.replace(" ", blank(r))).append(r.nextInt(8) == 0 ? " ;" : ";");
                text.append(r.nextInt(5) == 0 ? blank(r) : "");
            }
            if (spoil) {
                int times = 1 + r.nextInt(2);
                for (int i = 0; i < times; i++) {
                    spoil(r, text, parts);
                }
            }
            return text.length() <= 900 ? text.toString() : text.substring(0, 900);
        }

        static void spoil(Random r, StringBuilder text, List<String> parts) {
            int at = r.nextInt(text.length() + 1);
            String[] bits = {";", "<", "row ", "wide 3;", "copies 2;", "end;", "12345", "9", "0", "x", "p", "\t", "A", "\u00ff",
                "company a at 0 0 to 0 0;", "rise 0 0 by 9;", "row pp;", "stop;", "when ", "loop 3;", "at", "by 1", "abcdefghi ", "-",
                "loop 2;loop 2;loop 2;", "loop 1;loop 1;loop 1;loop 1;", "8", "100", "13", "3 ", "zz", "home;home;home;home;home;home;"};
            switch (r.nextInt(5)) {
                case 0:
                    text.insert(at, bits[r.nextInt(bits.length)]);
                    return;
                case 1:
                    text.setLength(at);
                    return;
                case 2:
                    if (at < text.length()) {
                        text.deleteCharAt(at);
                    }
                    return;
                case 3:
                    if (!parts.isEmpty()) {
                        text.append(parts.get(r.nextInt(parts.size()))).append(';');
                    }
                    return;
                default:
                    Matcher m = Pattern.compile("[a-z]+|[0-9]+|;").matcher(text);
                    if (m.find(Math.min(at, text.length()))) {
                        text.replace(m.start(), m.end(), bits[r.nextInt(bits.length)]);
                    }
            }
        }
    }

    /** The document, read plainly. */
    static final class Model {
        static final class Refused extends RuntimeException {
            final int status;

            Refused(int status) {
                this.status = status;
            }
        }

        static final class Faulty extends RuntimeException {
            final int kind;
            final int place;

            Faulty(int kind, int place) {
                this.kind = kind;
                this.place = place;
            }
        }

        static final class Co {
            String name;
            int homeX, homeY, x, y, toX, toY, by, spent;

            Co copy() {
                Co c = new Co();
                c.name = name;
                c.homeX = homeX;
                c.homeY = homeY;
                c.x = x;
                c.y = y;
                c.toX = toX;
                c.toY = toY;
                c.by = by;
                c.spent = spent;
                return c;
            }
        }

        static final class Step {
            List<String> words = new ArrayList<>();
            List<Step> inside = new ArrayList<>();

            int n(int i) {
                return Integer.parseInt(words.get(i));
            }
        }

        static final class L {
            int wide, rows, copies = 1, eaten;
            char[][] letter = new char[6][8];
            int[][] rise = new int[6][8];
            int[][][] state;
            List<Co> companies = new ArrayList<>();
            List<Step> orders;

            L copy() {
                L l = new L();
                l.wide = wide;
                l.rows = rows;
                l.copies = copies;
                l.eaten = eaten;
                for (int y = 0; y < 6; y++) {
                    l.letter[y] = letter[y].clone();
                    l.rise[y] = rise[y].clone();
                }
                l.state = new int[copies][][];
                for (int c = 0; c < copies; c++) {
                    l.state[c] = new int[rows][];
                    for (int y = 0; y < rows; y++) {
                        l.state[c][y] = state[c][y].clone();
                    }
                }
                for (Co co : companies) {
                    l.companies.add(co.copy());
                }
                l.orders = orders;
                return l;
            }
        }

        static final int[][] DIRECTIONS = {{1, 0}, {0, 1}, {-1, 0}, {0, -1}};

        private int status = 0;
        private BigInteger top = BigInteger.ZERO;
        private BigInteger bottom = BigInteger.ONE;
        private final long[][] trays = new long[4][];
        private final int[] sorts = new int[4];
        String tape = "";
        L land = new L();
        private final List<L> marks = new ArrayList<>();
        private int fault = -1;
        private int place = -1;
        private List<int[]> shown = new ArrayList<>();
        private int stuck = -1;
        private int[] ran;

        Model() {
            land.wide = 2;
            land.rows = 1;
            Arrays.fill(land.letter[0], 'p');
            land.state = new int[1][1][2];
        }

        interface Asked {
            long answer();
        }

        private long ask(Asked asked) {
            try {
                long answer = asked.answer();
                status = 0;
                return answer;
            } catch (Refused refused) {
                status = refused.status;
                return -1;
            }
        }

        private boolean asked(Asked asked) {
            return ask(asked) == 1;
        }

        private static void need(boolean holds, int status) {
            if (!holds) {
                throw new Refused(status);
            }
        }

        private static boolean in(int v, int least, int most) {
            return v >= least && v <= most;
        }

        private void needCell(int x, int y) {
            need(in(x, 0, land.wide - 1) && in(y, 0, land.rows - 1), 2);
        }

        private void needCopy(int copy) {
            need(in(copy, 0, land.copies - 1), 2);
        }

        private Co needCompany(int company) {
            need(in(company, 0, land.companies.size() - 1), 2);
            return land.companies.get(company);
        }

        public int status() {
            return status;
        }

        public long top() {
            return top.longValueExact();
        }

        public long bottom() {
            return bottom.longValueExact();
        }

        private void fraction(BigInteger over, BigInteger under) {
            BigInteger g = over.gcd(under);
            top = over.divide(g);
            bottom = under.divide(g);
        }

        // ---- TRAYS

        public boolean tray(int tray, int sort, int many) {
            return asked(() -> {
                need(in(tray, 0, 3) && in(sort, 0, 3), 1);
                need(many <= 60, 5);
                need(many >= 0, 6);
                trays[tray] = new long[many];
                sorts[tray] = sort;
                return 1;
            });
        }

        private void needPlace(int tray, int place) {
            need(in(tray, 0, 3), 1);
            need(trays[tray] != null, 3);
            need(in(place, 0, trays[tray].length - 1), 4);
        }

        public boolean write(int tray, int place, long v) {
            return asked(() -> {
                needPlace(tray, place);
                int bits = 8 << sorts[tray];
                long cut = v;
                if (bits < 64) {
                    cut = Math.floorMod(v, 1L << bits);
                    if (cut >= 1L << bits - 1) {
                        cut -= 1L << bits;
                    }
                }
                trays[tray][place] = cut;
                return 1;
            });
        }

        public long read(int tray, int place) {
            return ask(() -> {
                needPlace(tray, place);
                return trays[tray][place];
            });
        }

        public boolean pour(int tray, int i, int to, int j, int many) {
            return asked(() -> {
                need(in(tray, 0, 3) && in(to, 0, 3), 1);
                need(trays[tray] != null && trays[to] != null, 3);
                need(sorts[tray] == sorts[to], 11);
                need(many >= 0, 6);
                need(i >= 0 && (long) i + many <= trays[tray].length && j >= 0 && (long) j + many <= trays[to].length, 4);
                long[] were = trays[tray].clone();
                for (int k = 0; k < many; k++) {
                    trays[to][j + k] = were[i + k];
                }
                return 1;
            });
        }

        // ---- texts

        public int feed(int a, int b, int c, int d, int e) {
            if (tape.length() + 20 > 900) {
                return -1;
            }
            StringBuilder s = new StringBuilder(tape);
            for (int v : new int[] {a, b, c, d, e}) {
                for (int k = 3; k >= 0; k--) {
                    s.append((char) (v >>> 8 * k & 255));
                }
            }
            tape = s.toString();
            return tape.length();
        }

        public int land(int n) {
            return (int) ask(() -> {
                need(in(n, 0, tape.length()), 5);
                L read = (L) reading(n, true);
                land = read;
                return land.companies.size();
            });
        }

        public int orders(int n) {
            return (int) ask(() -> {
                need(in(n, 0, Math.min(300, tape.length())), 5);
                Reader reader = (Reader) reading(n, false);
                land.orders = reader.steps;
                return reader.stepCount;
            });
        }

        private Object reading(int n, boolean isLand) {
            String text = tape.substring(0, n);
            tape = "";
            try {
                Reader reader = new Reader(text);
                Object read = isLand ? reader.readLand() : reader.readOrders(land);
                fault = 0;
                place = -1;
                return read;
            } catch (Faulty f) {
                fault = f.kind;
                place = f.place;
                throw new Refused(10);
            }
        }

        public int fault(int what) {
            return what == 0 ? fault : what == 1 ? place : -1;
        }

        static final Set<String> RESERVED = new HashSet<>(Arrays.asList("wide", "row", "rise", "by", "copies", "company", "at",
            "to", "bite", "mould", "honey", "steam", "mouse", "march", "home", "when", "eaten", "arrives", "crumbs", "loop",
            "end", "stop"));

        static final class Reader {
            final String text;
            int at = 0;
            L land;
            List<Step> steps = new ArrayList<>();
            int stepCount = 0;

            Reader(String text) {
                this.text = text;
            }

            void skip() {
                while (at < text.length() && (text.charAt(at) == 10 || text.charAt(at) == 32)) {
                    at++;
                }
            }

            /** The TOKEN here, "" at the end. */
            String peek() {
                skip();
                if (at == text.length()) {
                    return "";
                }
                Matcher m = Pattern.compile("[a-z]+|[0-9]+|[;<>=]").matcher(text).region(at, text.length());
                if (!m.lookingAt() || m.group().matches("[0-9]{5,}")) {
                    throw new Faulty(1, at);
                }
                return m.group();
            }

            String take(boolean canStand) {
                String token = peek();
                if (!canStand) {
                    throw new Faulty(2, at);
                }
                at += token.length();
                return token;
            }

            String take(String regex) {
                return take(peek().matches(regex));
            }

            int number(int least, int most) {
                String token = peek();
                int where = at;
                int v = Integer.parseInt(take("[0-9]+"));
                if (v < least || v > most) {
                    throw new Faulty(4, where);
                }
                return v;
            }

            void complain(boolean holds, int kind) {
                if (holds) {
                    throw new Faulty(kind, at);
                }
            }

            String name() {
                String token = peek();
                if (!token.matches("[a-z]{1,8}") || RESERVED.contains(token)) {
                    throw new Faulty(2, at);
                }
                return token;
            }

            L readLand() {
                land = new L();
                take("wide");
                land.wide = number(2, 8);
                take(";");
                while (land.rows == 0 || peek().equals("row")) {
                    if (peek().equals("row")) {
                        complain(land.rows == 6, 6);
                    }
                    take("row");
                    String letters = take("[prhwf]{" + land.wide + "}");
                    for (int x = 0; x < land.wide; x++) {
                        land.letter[land.rows][x] = letters.charAt(x);
                    }
                    land.rows++;
                    take(";");
                }
                boolean copiesTold = false;
                while (!peek().isEmpty()) {
                    if (peek().equals("rise")) {
                        take("rise");
                        int x = number(0, land.wide - 1);
                        int y = number(0, land.rows - 1);
                        take("by");
                        land.rise[y][x] = number(0, 9);
                    } else if (peek().equals("copies")) {
                        complain(copiesTold, 5);
                        copiesTold = true;
                        take("copies");
                        land.copies = number(1, 3);
                    } else {
                        take(peek().equals("company") && land.companies.size() < 6 || !peek().equals("company") && fail()
                            || peek().equals("company") && tooMany());
                        readCompany();
                    }
                    take(";");
                }
                land.state = new int[land.copies][land.rows][land.wide];
                return land;
            }

            boolean fail() {
                throw new Faulty(2, at);
            }

            boolean tooMany() {
                throw new Faulty(6, at);
            }

            void readCompany() {
                Co co = new Co();
                co.name = name();
                for (Co other : land.companies) {
                    complain(other.name.equals(co.name), 3);
                }
                take(co.name);
                take("at");
                co.homeX = co.x = number(0, land.wide - 1);
                co.homeY = co.y = number(0, land.rows - 1);
                take("to");
                co.toX = number(0, land.wide - 1);
                co.toY = number(0, land.rows - 1);
                if (peek().equals("by")) {
                    take("by");
                    co.by = number(0, land.copies - 1);
                }
                land.companies.add(co);
            }

            Reader readOrders(L on) {
                land = on;
                steps = readSteps(0);
                return this;
            }

            List<Step> readSteps(int depth) {
                List<Step> row = new ArrayList<>();
                while (true) {
                    String token = peek();
                    if (token.equals("end") && depth > 0 || token.isEmpty() && depth == 0) {
                        return row;
                    }
                    if (!token.matches("bite|mould|honey|steam|mouse|march|home|when|loop|stop")) {
                        throw new Faulty(2, at);
                    }
                    complain(stepCount == 30, 6);
                    complain(depth == 3 && token.matches("when|loop"), 7);
                    stepCount++;
                    row.add(readStep(depth));
                }
            }

            void company(Step step) {
                String name = name();
                boolean known = false;
                for (Co co : land.companies) {
                    known |= co.name.equals(name);
                }
                complain(!known, 3);
                step.words.add(take(name));
            }

            void numberTo(Step step, int least, int most) {
                step.words.add("" + number(least, most));
            }

            void copyAtCell(Step step) {
                numberTo(step, 0, land.copies - 1);
                take("at");
                numberTo(step, 0, land.wide - 1);
                numberTo(step, 0, land.rows - 1);
            }

            Step readStep(int depth) {
                Step step = new Step();
                String word = take("[a-z]+");
                step.words.add(word);
                switch (word) {
                    case "bite": case "honey":
                        copyAtCell(step);
                        break;
                    case "mould":
                        numberTo(step, 0, land.copies - 1);
                        break;
                    case "steam":
                        numberTo(step, 0, land.copies - 1);
                        take("to");
                        numberTo(step, 0, land.copies - 1);
                        break;
                    case "mouse":
                        numberTo(step, 0, land.copies - 1);
                        take("by");
                        numberTo(step, 0, 12);
                        break;
                    case "march":
                        company(step);
                        break;
                    case "loop":
                        numberTo(step, 1, 99);
                        break;
                    case "when":
                        String test = take("eaten|arrives|crumbs");
                        step.words.add(test);
                        if (test.equals("eaten")) {
                            copyAtCell(step);
                        } else if (test.equals("arrives")) {
                            company(step);
                        } else {
                            step.words.add(take("[<>=]"));
                            numberTo(step, 0, 9999);
                        }
                        break;
                    default:
                }
                take(";");
                if (word.matches("when|loop")) {
                    step.inside = readSteps(depth + 1);
                    take("end");
                    take(";");
                }
                return step;
            }
        }

        public int many(int what) {
            return (int) ask(() -> {
                need(in(what, 0, 5), 5);
                int left = 0;
                for (int[][] copy : land.state) {
                    for (int y = 0; y < land.rows; y++) {
                        for (int x = 0; x < land.wide; x++) {
                            left += copy[y][x] == 1 ? 0 : crumbs(land, x, y);
                        }
                    }
                }
                return new int[] {land.wide, land.rows, land.copies, land.companies.size(), land.eaten, left}[what];
            });
        }

        static int letterCost(char letter) {
            return letter == 'p' ? 2 : letter == 'r' ? 1 : letter == 'h' ? 4 : letter == 'f' ? 3 : 5;
        }

        static int crumbs(L l, int x, int y) {
            return letterCost(l.letter[y][x]) + l.rise[y][x];
        }

        public int ground(int x, int y, int what) {
            return (int) ask(() -> {
                needCell(x, y);
                need(in(what, 0, 3), 5);
                need(what != 1 || land.letter[y][x] != 'w', 8);
                int cost = letterCost(land.letter[y][x]) + land.rise[y][x];
                return new int[] {"prhwf".indexOf(land.letter[y][x]), cost, land.rise[y][x], crumbs(land, x, y)}[what];
            });
        }

        public int cell(int copy, int x, int y) {
            return (int) ask(() -> {
                needCopy(copy);
                needCell(x, y);
                return land.state[copy][y][x];
            });
        }

        static int showing(L l, int copy, int x, int y) {
            return new int[] {"prhwf".indexOf(l.letter[y][x]), 5, 6, 7}[l.state[copy][y][x]];
        }

        public int shows(int copy, int x, int y) {
            return (int) ask(() -> {
                needCopy(copy);
                needCell(x, y);
                return showing(land, copy, x, y);
            });
        }

        public int company(int company, int what) {
            return (int) ask(() -> {
                Co c = needCompany(company);
                need(in(what, 0, 5), 5);
                return new int[] {c.x, c.y, c.toX, c.toY, c.by, c.spent}[what];
            });
        }

        // ---- bread

        static boolean tryBite(L l, int copy, int x, int y) {
            if (l.state[copy][y][x] == 1) {
                return false;
            }
            l.state[copy][y][x] = 1;
            l.eaten += crumbs(l, x, y);
            return true;
        }

        static boolean tryMould(L l, int copy, int x, int y) {
            if (l.state[copy][y][x] != 0) {
                return false;
            }
            l.state[copy][y][x] = 2;
            return true;
        }

        static boolean tryHoney(L l, int copy, int x, int y) {
            if (l.state[copy][y][x] % 2 != 0) {
                return false;
            }
            l.state[copy][y][x] = 3;
            return true;
        }

        public int bite(int copy, int x, int y) {
            return (int) ask(() -> {
                needCopy(copy);
                needCell(x, y);
                need(tryBite(land, copy, x, y), 9);
                return crumbs(land, x, y);
            });
        }

        public boolean mould(int copy, int x, int y) {
            return asked(() -> {
                needCopy(copy);
                needCell(x, y);
                need(tryMould(land, copy, x, y), 9);
                return 1;
            });
        }

        public boolean honey(int copy, int x, int y) {
            return asked(() -> {
                needCopy(copy);
                needCell(x, y);
                need(tryHoney(land, copy, x, y), 9);
                return 1;
            });
        }

        public boolean clean(int copy, int x, int y) {
            return asked(() -> {
                needCopy(copy);
                needCell(x, y);
                need(land.state[copy][y][x] >= 2, 9);
                land.state[copy][y][x] = 0;
                return 1;
            });
        }

        private int differing(int a, int b) {
            int n = 0;
            for (int y = 0; y < land.rows; y++) {
                for (int x = 0; x < land.wide; x++) {
                    n += land.state[a][y][x] != land.state[b][y][x] ? 1 : 0;
                }
            }
            return n;
        }

        public int steam(int copy, int to) {
            return (int) ask(() -> {
                needCopy(copy);
                needCopy(to);
                need(copy != to, 5);
                int n = differing(copy, to);
                steaming(land, copy, to);
                return n;
            });
        }

        static void steaming(L l, int copy, int to) {
            for (int y = 0; y < l.rows; y++) {
                l.state[to][y] = l.state[copy][y].clone();
            }
        }

        public int unlike(int a, int b) {
            return (int) ask(() -> {
                needCopy(a);
                needCopy(b);
                return differing(a, b);
            });
        }

        public int count(int copy, int how) {
            return (int) ask(() -> {
                needCopy(copy);
                need(in(how, 0, 3), 5);
                return counting(copy, how);
            });
        }

        private int counting(int copy, int how) {
            int n = 0;
            for (int[] row : land.state[copy]) {
                for (int s : row) {
                    n += s == how ? 1 : 0;
                }
            }
            return n;
        }

        public int hole(int copy) {
            return (int) ask(() -> {
                needCopy(copy);
                boolean[][] done = new boolean[land.rows][land.wide];
                int most = 0;
                for (int y = 0; y < land.rows; y++) {
                    for (int x = 0; x < land.wide; x++) {
                        most = Math.max(most, flood(copy, x, y, done));
                    }
                }
                return most;
            });
        }

        private int flood(int copy, int x, int y, boolean[][] done) {
            if (x < 0 || y < 0 || x >= land.wide || y >= land.rows || done[y][x] || land.state[copy][y][x] != 1) {
                return 0;
            }
            done[y][x] = true;
            int n = 1;
            for (int[] d : DIRECTIONS) {
                n += flood(copy, x + d[0], y + d[1], done);
            }
            return n;
        }

        // ---- marches

        /** What it costs to come into a CELL, 0 if nobody would; by the ground for copy -1. */
        static int cost(L l, int copy, int x, int y) {
            int s = copy < 0 ? 0 : l.state[copy][y][x];
            if (s == 1 || s == 3 || s == 0 && l.letter[y][x] == 'w') {
                return 0;
            }
            return (s == 2 ? 5 : letterCost(l.letter[y][x])) + l.rise[y][x];
        }

        static final class Route {
            final int cost;
            final String steps;

            Route(int cost, String steps) {
                this.cost = cost;
                this.steps = steps;
            }

            boolean isBetter(Route other) {
                if (other == null || cost != other.cost) {
                    return other == null || cost < other.cost;
                }
                if (steps.length() != other.steps.length()) {
                    return steps.length() < other.steps.length();
                }
                return steps.compareTo(other.steps) < 0;
            }
        }

        /** The best Route to every CELL from one on, bettered till nothing gets better. */
        static Route route(L l, int copy, int x0, int y0, int x1, int y1) {
            Route[][] best = new Route[l.rows][l.wide];
            best[y0][x0] = new Route(0, "");
            for (boolean changed = true; changed;) {
                changed = false;
                for (int y = 0; y < l.rows; y++) {
                    for (int x = 0; x < l.wide; x++) {
                        for (int d = 0; d < 4 && best[y][x] != null; d++) {
                            int nx = x + DIRECTIONS[d][0];
                            int ny = y + DIRECTIONS[d][1];
                            if (nx < 0 || ny < 0 || nx >= l.wide || ny >= l.rows || cost(l, copy, nx, ny) == 0) {
                                continue;
                            }
                            Route on = new Route(best[y][x].cost + cost(l, copy, nx, ny), best[y][x].steps + d);
                            if (on.isBetter(best[ny][nx])) {
                                best[ny][nx] = on;
                                changed = true;
                            }
                        }
                    }
                }
            }
            return best[y1][x1];
        }

        static Route route(L l, Co c) {
            return route(l, c.by, c.x, c.y, c.toX, c.toY);
        }

        static List<int[]> cells(Co c, Route r) {
            List<int[]> cells = new ArrayList<>();
            int x = c.x;
            int y = c.y;
            cells.add(new int[] {x, y});
            for (char d : r.steps.toCharArray()) {
                x += DIRECTIONS[d - '0'][0];
                y += DIRECTIONS[d - '0'][1];
                cells.add(new int[] {x, y});
            }
            return cells;
        }

        private Route needRoute(Co c) {
            Route r = route(land, c);
            need(r != null, 9);
            return r;
        }

        public int way(int company) {
            return (int) ask(() -> {
                Co c = needCompany(company);
                Route r = needRoute(c);
                shown = cells(c, r);
                return r.cost;
            });
        }

        public int wayAt(int k, int what) {
            return (int) ask(() -> {
                need(in(what, 0, 1), 5);
                need(in(k, 0, shown.size() - 1), 8);
                return shown.get(k)[what];
            });
        }

        /** Goes: how many CELLS, or that less 100 if STUCK. */
        static int going(L l, Co c, Route r) {
            int went = -1;
            for (int[] cell : cells(c, r)) {
                if (went >= 0) {
                    if (l.letter[cell[1]][cell[0]] == 'w') {
                        return went - 100;
                    }
                    c.x = cell[0];
                    c.y = cell[1];
                    c.spent += letterCost(l.letter[c.y][c.x]) + l.rise[c.y][c.x];
                }
                went++;
            }
            return went;
        }

        public int march(int company) {
            return (int) ask(() -> {
                Co c = needCompany(company);
                int went = going(land, c, needRoute(c));
                stuck = went < 0 ? 1 : 0;
                return went < 0 ? went + 100 : went;
            });
        }

        public int stuck() {
            return (int) ask(() -> {
                need(stuck >= 0, 8);
                return stuck;
            });
        }

        public int truly(int company) {
            return (int) ask(() -> {
                Co c = needCompany(company);
                Co shadow = c.copy();
                shadow.spent = 0;
                need(going(land, shadow, needRoute(c)) >= 0, 9);
                return shadow.spent;
            });
        }

        public int best(int company) {
            return (int) ask(() -> {
                Co c = needCompany(company);
                Route r = route(land, -1, c.x, c.y, c.toX, c.toY);
                need(r != null, 9);
                return r.cost;
            });
        }

        public boolean hand(int company, int copy) {
            return asked(() -> {
                Co c = needCompany(company);
                needCopy(copy);
                c.by = copy;
                return 1;
            });
        }

        public int reach() {
            return (int) ask(() -> {
                int set = 0;
                for (int i = 0; i < land.companies.size(); i++) {
                    set += route(land, land.companies.get(i)) != null ? 1 << i : 0;
                }
                return set;
            });
        }

        public int seen(int company, int copy) {
            return (int) ask(() -> {
                Co c = needCompany(company);
                needCopy(copy);
                int n = 0;
                for (int[] cell : cells(c, needRoute(c))) {
                    n += land.state[copy][cell[1]][cell[0]] == 3 ? 1 : 0;
                }
                return n;
            });
        }

        // ---- what to eat

        private List<int[]> eatable(int copy) {
            List<int[]> cells = new ArrayList<>();
            for (int y = 0; y < land.rows; y++) {
                for (int x = 0; x < land.wide; x++) {
                    boolean free = land.state[copy][y][x] != 1;
                    for (Co c : land.companies) {
                        free &= c.by != copy || !(c.x == x && c.y == y) && !(c.toX == x && c.toY == y);
                    }
                    if (free) {
                        cells.add(new int[] {x, y});
                    }
                }
            }
            return cells;
        }

        /** How many COMPANIES by a COPY have a WAY, and what these cost, if CELLS were BITTEN. */
        private int[] after(int copy, int[]... bites) {
            L l = land.copy();
            for (int[] b : bites) {
                l.state[copy][b[1]][b[0]] = 1;
            }
            int[] sums = new int[2];
            for (Co c : l.companies) {
                Route r = c.by == copy ? route(l, c) : null;
                sums[0] += r != null ? 1 : 0;
                sums[1] += r != null ? r.cost : 0;
            }
            return sums;
        }

        public int supper(int copy, int cells, int what) {
            return (int) ask(() -> {
                needCopy(copy);
                need(in(cells, 1, 2) && in(what, 0, 3), 5);
                need(cells == 2 || what < 3, 8);
                List<int[]> free = eatable(copy);
                int[] best = null;
                for (int i = 0; i < free.size(); i++) {
                    for (int j = cells == 1 ? i : i + 1; j < (cells == 1 ? i + 1 : free.size()); j++) {
                        int[] sums = after(copy, free.get(i), free.get(j));
                        if (best == null || sums[0] > best[0] || sums[0] == best[0] && sums[1] < best[1]) {
                            best = new int[] {sums[0], sums[1], number(free.get(i)), number(free.get(j))};
                        }
                    }
                }
                need(best != null, 9);
                return best[what];
            });
        }

        private int number(int[] cell) {
            return land.wide * cell[1] + cell[0];
        }

        public int cut(int company) {
            return (int) ask(() -> {
                Co c = needCompany(company);
                needRoute(c);
                need(Math.abs(c.x - c.toX) + Math.abs(c.y - c.toY) > 1, 9);
                List<int[]> free = new ArrayList<>();
                for (int y = 0; y < land.rows; y++) {
                    for (int x = 0; x < land.wide; x++) {
                        if (cost(land, c.by, x, y) > 0 && (x != c.x || y != c.y) && (x != c.toX || y != c.toY)) {
                            free.add(new int[] {x, y});
                        }
                    }
                }
                for (int n = 1; n <= 3; n++) {
                    if (parts(land.copy(), c, free, 0, n)) {
                        return n;
                    }
                }
                return 4;
            });
        }

        private boolean parts(L l, Co c, List<int[]> free, int from, int n) {
            if (n == 0) {
                return !connected(l, c.by, c.x, c.y, c.toX, c.toY, new boolean[l.rows][l.wide]);
            }
            for (int i = from; i < free.size(); i++) {
                int[] cell = free.get(i);
                int was = l.state[c.by][cell[1]][cell[0]];
                l.state[c.by][cell[1]][cell[0]] = 1;
                boolean parted = parts(l, c, free, i + 1, n - 1);
                l.state[c.by][cell[1]][cell[0]] = was;
                if (parted) {
                    return true;
                }
            }
            return false;
        }

        private boolean connected(L l, int copy, int x, int y, int tx, int ty, boolean[][] done) {
            done[y][x] = true;
            if (x == tx && y == ty) {
                return true;
            }
            for (int[] d : DIRECTIONS) {
                int nx = x + d[0];
                int ny = y + d[1];
                if (nx >= 0 && ny >= 0 && nx < l.wide && ny < l.rows && !done[ny][nx] && cost(l, copy, nx, ny) > 0
                    && connected(l, copy, nx, ny, tx, ty, done)) {
                    return true;
                }
            }
            return false;
        }

        private int worthy(int copy, int x, int y) {
            L l = land.copy();
            l.state[copy][y][x] = 1;
            int sum = 0;
            for (Co c : land.companies) {
                Route now = c.by == copy ? route(land, c) : null;
                if (now != null) {
                    Route then = route(l, c);
                    sum += then == null ? 100 : then.cost - now.cost;
                }
            }
            return sum;
        }

        public int worth(int copy, int x, int y) {
            return (int) ask(() -> {
                needCopy(copy);
                needCell(x, y);
                need(land.state[copy][y][x] != 1, 9);
                return worthy(copy, x, y);
            });
        }

        public int mostWorth(int copy, int what) {
            return (int) ask(() -> {
                needCopy(copy);
                need(in(what, 0, 1), 5);
                int[] best = null;
                for (int[] cell : eatable(copy)) {
                    int w = worthy(copy, cell[0], cell[1]);
                    if (best == null || w > best[1]) {
                        best = new int[] {number(cell), w};
                    }
                }
                need(best != null, 8);
                return best[what];
            });
        }

        // ---- crumbs, halves, mice

        static BigInteger factorial(long n) {
            BigInteger f = BigInteger.ONE;
            for (long i = 2; i <= n; i++) {
                f = f.multiply(BigInteger.valueOf(i));
            }
            return f;
        }

        public long told(int copy, int tray) {
            return ask(() -> {
                need(in(tray, 0, 3), 1);
                needCopy(copy);
                need(trays[tray] != null, 3);
                need(trays[tray].length >= 5, 4);
                long sum = 0;
                for (int i = 0; i < 5; i++) {
                    need(trays[tray][i] >= 0 && trays[tray][i] <= 48, 5);
                    sum += trays[tray][i];
                }
                if (sum != counting(copy, 1)) {
                    return 0;
                }
                BigInteger ways = factorial(sum);
                for (int i = 0; i < 5; i++) {
                    ways = ways.divide(factorial(trays[tray][i]));
                }
                return ways.min(BigInteger.valueOf(999_999_999_999L)).longValueExact();
            });
        }

        public int halves(int a, int b, int what) {
            return (int) ask(() -> {
                needCopy(a);
                needCopy(b);
                need(in(what, 0, 1), 5);
                int left = (land.wide + 1) / 2;
                int[] best = {-1, 0};
                for (int move : new int[] {0, -1, 1, -2, 2}) {
                    int fit = 0;
                    for (int y = 0; y < land.rows; y++) {
                        for (int ry = 0; ry < land.rows; ry++) {
                            if (ry + move == y) {
                                int l = showing(land, a, left - 1, y);
                                int r = showing(land, b, left, ry);
                                fit += l == r || (l == 1 || l == 4) && (r == 1 || r == 4) ? 1 : 0;
                            }
                        }
                    }
                    if (fit > best[0]) {
                        best = new int[] {fit, move};
                    }
                }
                return best[what];
            });
        }

        /** Of all walks from here those that come to a CELL. */
        private BigInteger hits(int x, int y, int tx, int ty, int nights, Map<List<Integer>, BigInteger> known) {
            if (x == tx && y == ty) {
                return BigInteger.valueOf(4).pow(nights);
            }
            if (nights == 0) {
                return BigInteger.ZERO;
            }
            List<Integer> key = Arrays.asList(x, y, nights);
            if (!known.containsKey(key)) {
                BigInteger sum = BigInteger.ZERO;
                for (int[] d : DIRECTIONS) {
                    boolean there = in(x + d[0], 0, land.wide - 1) && in(y + d[1], 0, land.rows - 1);
                    sum = sum.add(hits(there ? x + d[0] : x, there ? y + d[1] : y, tx, ty, nights - 1, known));
                }
                known.put(key, sum);
            }
            return known.get(key);
        }

        public boolean odds(int x, int y, int cellX, int cellY, int nights) {
            return asked(() -> {
                needCell(x, y);
                needCell(cellX, cellY);
                need(in(nights, 0, 12), 5);
                fraction(hits(x, y, cellX, cellY, nights, new HashMap<>()), BigInteger.valueOf(4).pow(nights));
                return 1;
            });
        }

        /** How many CELLS all walks eat together, each walk gone for itself. */
        private long eatenOn(int x, int y, long before, int nights) {
            long eaten = before | 1L << y * 8 + x;
            if (nights == 0) {
                return Long.bitCount(eaten);
            }
            long sum = 0;
            for (int[] d : DIRECTIONS) {
                boolean there = in(x + d[0], 0, land.wide - 1) && in(y + d[1], 0, land.rows - 1);
                sum += eatenOn(there ? x + d[0] : x, there ? y + d[1] : y, eaten, nights - 1);
            }
            return sum;
        }

        public boolean mean(int x, int y, int nights) {
            return asked(() -> {
                needCell(x, y);
                need(in(nights, 0, 8), 5);
                fraction(BigInteger.valueOf(eatenOn(x, y, 0, nights)), BigInteger.valueOf(4).pow(nights));
                return 1;
            });
        }

        // ---- ORDERS

        static final class Halt extends RuntimeException {
        }

        static final class Carrying {
            final L l;
            long s;
            int done = 0;
            final int[] ran = new int[4];

            Carrying(L l, int seed) {
                this.l = l;
                this.s = seed;
                try {
                    all(l.orders);
                } catch (Halt halt) {
                    // by stop or the 300
                }
            }

            int draw(int n) {
                s = (s * 2837 + 10331) % 65536;
                return (int) (s / 8 % n);
            }

            void all(List<Step> steps) {
                for (Step step : steps) {
                    if (done == 300) {
                        ran[3] = 1;
                        throw new Halt();
                    }
                    done++;
                    one(step);
                }
            }

            Co co(String name) {
                for (Co c : l.companies) {
                    if (c.name.equals(name)) {
                        return c;
                    }
                }
                throw new IllegalStateException();
            }

            boolean holds(Step step) {
                switch (step.words.get(1)) {
                    case "eaten":
                        return l.state[step.n(2)][step.n(4)][step.n(3)] == 1;
                    case "arrives":
                        Co c = co(step.words.get(2));
                        return c.x == c.toX && c.y == c.toY;
                    default:
                        int signum = Integer.compare(l.eaten, step.n(3));
                        return "<=>".indexOf(step.words.get(2)) - 1 == signum;
                }
            }

            void one(Step step) {
                boolean could = true;
                switch (step.words.get(0)) {
                    case "bite":
                        could = tryBite(l, step.n(1), step.n(2), step.n(3));
                        ran[1] += could ? 1 : 0;
                        break;
                    case "mould":
                        int mx = draw(l.wide);
                        int my = draw(l.rows);
                        could = tryMould(l, step.n(1), mx, my);
                        break;
                    case "honey":
                        could = tryHoney(l, step.n(1), step.n(2), step.n(3));
                        break;
                    case "steam":
                        could = step.n(1) != step.n(2);
                        if (could) {
                            steaming(l, step.n(1), step.n(2));
                        }
                        break;
                    case "mouse":
                        int x = draw(l.wide);
                        int y = draw(l.rows);
                        ran[1] += tryBite(l, step.n(1), x, y) ? 1 : 0;
                        for (int night = 0; night < step.n(2); night++) {
                            int d = draw(4);
                            if (in(x + DIRECTIONS[d][0], 0, l.wide - 1) && in(y + DIRECTIONS[d][1], 0, l.rows - 1)) {
                                x += DIRECTIONS[d][0];
                                y += DIRECTIONS[d][1];
                            }
                            ran[1] += tryBite(l, step.n(1), x, y) ? 1 : 0;
                        }
                        break;
                    case "march":
                        Co c = co(step.words.get(1));
                        Route r = route(l, c);
                        could = r != null;
                        ran[2] += could && going(l, c, r) < 0 ? 1 : 0;
                        break;
                    case "home":
                        for (Co each : l.companies) {
                            each.x = each.homeX;
                            each.y = each.homeY;
                        }
                        break;
                    case "stop":
                        throw new Halt();
                    case "loop":
                        for (int i = 0; i < step.n(1); i++) {
                            all(step.inside);
                        }
                        break;
                    default:
                        if (holds(step)) {
                            all(step.inside);
                        }
                }
                ran[0] += could ? 0 : 1;
            }
        }

        public int run(int seed) {
            return (int) ask(() -> {
                need(in(seed, 0, 9999), 5);
                need(land.orders != null, 8);
                Carrying c = new Carrying(land, seed);
                ran = c.ran;
                return c.done;
            });
        }

        public int ran(int what) {
            return (int) ask(() -> {
                need(in(what, 0, 3), 5);
                need(ran != null, 8);
                return ran[what];
            });
        }

        public boolean arrivals(int company, int seed, int many) {
            return asked(() -> {
                needCompany(company);
                need(in(many, 1, 20) && seed >= 0 && (long) seed + many - 1 <= 9999, 5);
                need(land.orders != null, 8);
                int n = 0;
                for (int i = 0; i < many; i++) {
                    L l = land.copy();
                    new Carrying(l, seed + i);
                    Co c = l.companies.get(company);
                    n += c.x == c.toX && c.y == c.toY ? 1 : 0;
                }
                fraction(BigInteger.valueOf(n), BigInteger.valueOf(many));
                return 1;
            });
        }

        // ---- MARKS

        public int mark() {
            return (int) ask(() -> {
                need(marks.size() < 3, 7);
                marks.add(land.copy());
                return marks.size();
            });
        }

        public int back() {
            return (int) ask(() -> {
                need(!marks.isEmpty(), 8);
                land = marks.remove(marks.size() - 1);
                return marks.size();
            });
        }
    }
}
