/** What the project's tests share: one object at a time, what is due of it, texts by feed(). */
abstract class Checks {
    static final long NONE = -1;

    static int wrong = 0;
    static int asked = 0;
    static int promise = 0;
    /** The document's words that are looked at; empty where the promise says enough. */
    static String words = "";
    static BreadMap x = new BreadMap();

    static void due(String what, long got, long want) {
        asked++;
        if (got != want) {
            complain(what + " answered " + got + ", due is " + want);
        }
    }

    static void due(String what, boolean got, boolean want) {
        due(what, got ? 1 : 0, want ? 1 : 0);
    }

    static void complain(String what) {
        wrong++;
        System.out.println("promise " + promise + (words.isEmpty() ? "" : " ('" + words + "')") + ": " + what);
    }

    /** The call before must have had this STATUS. */
    static void status(String what, int want) {
        due("status() behind " + what, x.status(), want);
    }

    static void refused(String what, long got, int status) {
        due(what, got, NONE);
        status(what, status);
    }

    static void refused(String what, boolean got, int status) {
        due(what, got, false);
        status(what, status);
    }

    static void taken(String what, long got, long want) {
        due(what, got, want);
        status(what, 0);
    }

    static void taken(String what, boolean got) {
        due(what, got, true);
        status(what, 0);
    }

    static void fraction(String what, boolean got, long top, long bottom) {
        taken(what, got);
        due("top() behind " + what, x.top(), top);
        due("bottom() behind " + what, x.bottom(), bottom);
    }

    static void feed(String text) {
        feed(x, text);
    }

    /** Blanks fill the last twenty bytes. */
    static void feed(BreadMap map, String text) {
        StringBuilder padded = new StringBuilder(text);
        while (padded.length() % 20 != 0) {
            padded.append(' ');
        }
        for (int i = 0; i < padded.length(); i += 20) {
            int[] v = new int[5];
            for (int k = 0; k < 20; k++) {
                v[k / 4] = v[k / 4] << 8 | padded.charAt(i + k) & 255;
            }
            map.feed(v[0], v[1], v[2], v[3], v[4]);
        }
    }

    static int land(String text) {
        feed(text);
        return x.land(text.length());
    }

    static int orders(String text) {
        feed(text);
        return x.orders(text.length());
    }

    static void fresh(int number, String land) {
        promise = number;
        x = new BreadMap();
        if (land != null && land(land) == NONE) {
            complain("the land was not taken, fault " + x.fault(0) + " at " + x.fault(1));
        }
    }

    /** The words of the document that are looked at next, on a new object. */
    static void sentence(int number, String saying, String land) {
        words = saying;
        fresh(number, land);
    }

    /** A LAND with a FAULT: its kind and place. */
    static void landFault(String text, int kind, int at) {
        refused("land of '" + text + "'", land(text), 10);
        due("fault(0) of '" + text + "'", x.fault(0), kind);
        due("fault(1) of '" + text + "'", x.fault(1), at);
    }

    /** The FAULT lies where the bad part begins. */
    static void landFault(String good, String bad, int kind) {
        landFault(good + bad, kind, good.length());
    }

    static void ordersFault(String text, int kind, int at) {
        refused("orders of '" + text + "'", orders(text), 10);
        due("fault(0) of '" + text + "'", x.fault(0), kind);
        due("fault(1) of '" + text + "'", x.fault(1), at);
    }

    static void ordersFault(String good, String bad, int kind) {
        ordersFault(good + bad, kind, good.length());
    }

    static void landTaken(String text, int companies) {
        taken("land of '" + text + "'", land(text), companies);
        due("fault(0) of '" + text + "'", x.fault(0), 0);
        due("fault(1) of '" + text + "'", x.fault(1), NONE);
    }

    static void ordersTaken(String text, int steps) {
        taken("orders of '" + text + "'", orders(text), steps);
        due("fault(0) of '" + text + "'", x.fault(0), 0);
        due("fault(1) of '" + text + "'", x.fault(1), NONE);
    }

    static String times(int many, String text) {
        return text.repeat(many);
    }

    static void tell() {
        System.out.println(wrong == 0 ? asked + " answers are as due" : wrong + " answers are not as due");
        if (wrong != 0) {
            System.exit(1);
        }
    }
}
