import java.lang.reflect.InvocationTargetException;
import java.lang.reflect.Method;
import java.util.List;

/** What the project's tests share: one object at a time, what is due of it, texts by feed(). */
abstract class Checks {
    static final long NONE = -1;
    /** In the document's order: that of the constructor is promise 1. */
    private static final List<String> CALLS = List.of(("status top bottom tray write read pour feed land orders fault many ground cell shows"
        + " company bite mould honey clean steam unlike count hole way wayAt march stuck truly best hand reach seen supper cut worth"
        + " mostWorth told halves odds mean run ran arrivals mark back").split(" "));

    static int wrong = 0;
    static int asked = 0;
    static int promise = 0;
    /** The document's words that are looked at; empty where the promise says enough. */
    static String words = "";
    static BreadMap x = new BreadMap();
    /** About how many calls were made on it, and the text of its LAND. */
    private static int used = 0;
    private static String landText = null;

    static void due(String what, long got, long want) {
        asked++;
        used++;
        if (got != want) {
            complain(what + " answered " + got + ", due is " + want);
        }
    }

    static void due(String what, boolean got, boolean want) {
        due(what, got ? 1 : 0, want ? 1 : 0);
    }

    static void complain(String what) {
        wrong++;
        System.out.println("promise " + promise + (words.isEmpty() ? "" : " ('" + words + "')") + ": " + what);
    }

    /** The call before must have had this STATUS. */
    static void status(String what, int want) {
        due("status() behind " + what, x.status(), want);
    }

    static void refused(String what, long got, int status) {
        due(what, got, NONE);
        status(what, status);
    }

    static void refused(String what, boolean got, int status) {
        due(what, got, false);
        status(what, status);
    }

    static void taken(String what, long got, long want) {
        due(what, got, want);
        status(what, 0);
    }

    static void taken(String what, boolean got) {
        due(what, got, true);
        status(what, 0);
    }

    static void fraction(String what, boolean got, long top, long bottom) {
        taken(what, got);
        due("top() behind " + what, x.top(), top);
        due("bottom() behind " + what, x.bottom(), bottom);
    }

    static int promiseOf(String call) {
        return 2 + CALLS.indexOf(call);
    }

    private static Method method(String call) {
        for (Method m : BreadMap.class.getDeclaredMethods()) {
            if (m.getName().equals(call)) {
                return m;
            }
        }
        throw new IllegalArgumentException(call);
    }

    static boolean isYesOrNo(String call) {
        return method(call).getReturnType() == boolean.class;
    }

    /** What a call by its name answers, yes and no as 1 and 0. */
    static long answer(BreadMap map, String call, long... args) {
        Method m = method(call);
        Object[] given = new Object[args.length];
        for (int i = 0; i < args.length; i++) {
            given[i] = m.getParameterTypes()[i] == long.class ? (Object) args[i] : (Object) (int) args[i];
        }
        try {
            Object got = m.invoke(map, given);
            return got instanceof Boolean ? (Boolean) got ? 1 : 0 : ((Number) got).longValue();
        } catch (InvocationTargetException | IllegalAccessException e) {
            throw new IllegalStateException(call + " threw " + e.getCause());
        }
    }

    static void feed(String text) {
        feed(x, text);
    }

    /** Blanks fill the last twenty bytes. */
    static void feed(BreadMap map, String text) {
        StringBuilder padded = new StringBuilder(text);
        while (padded.length() % 20 != 0) {
            padded.append(' ');
        }
        for (int i = 0; i < padded.length(); i += 20) {
            int[] v = new int[5];
            for (int k = 0; k < 20; k++) {
                v[k / 4] = v[k / 4] << 8 | padded.charAt(i + k) & 255;
            }
            map.feed(v[0], v[1], v[2], v[3], v[4]);
            used++;
        }
    }

    static int land(String text) {
        feed(text);
        return x.land(text.length());
    }

    static int orders(String text) {
        feed(text);
        return x.orders(text.length());
    }

    static void fresh(int number, String land) {
        promise = number;
        x = new BreadMap();
        used = 0;
        landText = land;
        if (land != null && land(land) == NONE) {
            complain("the land was not taken, fault " + x.fault(0) + " at " + x.fault(1));
        }
    }

    /** Texts are tried one by one on an object that is good for 512 calls; then another one goes on. */
    private static void spare() {
        if (used > 350) {
            fresh(promise, landText);
        }
    }

    /** The words of the document that are looked at next, on a new object. */
    static void sentence(int number, String saying, String land) {
        words = saying;
        fresh(number, land);
    }

    /** A LAND with a FAULT: its kind and place. */
    static void landFault(String text, int kind, int at) {
        spare();
        refused("land of '" + text + "'", land(text), 10);
        due("fault(0) of '" + text + "'", x.fault(0), kind);
        due("fault(1) of '" + text + "'", x.fault(1), at);
    }

    /** The FAULT lies where the bad part begins. */
    static void landFault(String good, String bad, int kind) {
        landFault(good + bad, kind, good.length());
    }

    static void ordersFault(String text, int kind, int at) {
        spare();
        refused("orders of '" + text + "'", orders(text), 10);
        due("fault(0) of '" + text + "'", x.fault(0), kind);
        due("fault(1) of '" + text + "'", x.fault(1), at);
    }

    static void ordersFault(String good, String bad, int kind) {
        ordersFault(good + bad, kind, good.length());
    }

    static void landTaken(String text, int companies) {
        spare();
        landText = text;
        taken("land of '" + text + "'", land(text), companies);
        due("fault(0) of '" + text + "'", x.fault(0), 0);
        due("fault(1) of '" + text + "'", x.fault(1), NONE);
    }

    static void ordersTaken(String text, int steps) {
        spare();
        taken("orders of '" + text + "'", orders(text), steps);
        due("fault(0) of '" + text + "'", x.fault(0), 0);
        due("fault(1) of '" + text + "'", x.fault(1), NONE);
    }

    static String times(int many, String text) {
        return text.repeat(many);
    }

    static void tell() {
        System.out.println(wrong == 0 ? asked + " answers are as due" : wrong + " answers are not as due");
        if (wrong != 0) {
            System.exit(1);
        }
    }
}
