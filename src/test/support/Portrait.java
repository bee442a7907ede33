import java.util.LinkedHashMap;
import java.util.Map;

/**
 * All that can be asked of an object, told part by part as a text: two objects are alike if their
 * portraits are. Towards its end the asking changes the object, so each one sits for it once. With a
 * small LAND it takes fewer calls than an object is good for.
 */
final class Portrait {
    private final BreadMap map;
    private final Map<String, String> parts = new LinkedHashMap<>();

    private Portrait(BreadMap map) {
        this.map = map;
    }

    static Map<String, String> of(BreadMap map) {
        Portrait portrait = new Portrait(map);
        portrait.parts.put("fraction", map.top() + "/" + map.bottom());
        portrait.parts.put("fault", map.fault(0) + " at " + map.fault(1));
        portrait.parts.put("way", portrait.way());
        portrait.parts.put("stuck", map.stuck() + " status " + map.status());
        portrait.parts.put("ran", portrait.ran());
        portrait.parts.put("trays", portrait.trays());
        portrait.parts.put("ground", portrait.ground());
        portrait.parts.put("bread", portrait.bread());
        portrait.parts.put("orders", map.run(4321) + " status " + map.status() + portrait.ran() + portrait.bread());
        portrait.parts.put("tape", portrait.tape());
        portrait.parts.put("marks", portrait.marks());
        return portrait.parts;
    }

    private String way() {
        StringBuilder told = new StringBuilder();
        for (int k = 0; k < 48 && map.wayAt(k, 0) != BreadMap.NONE; k++) {
            told.append(map.wayAt(k, 0)).append(' ').append(map.wayAt(k, 1)).append(", ");
        }
        return told.toString();
    }

    private String ran() {
        StringBuilder told = new StringBuilder();
        for (int what = 0; what < 4; what++) {
            told.append(' ').append(map.ran(what));
        }
        return told.toString();
    }

    /** The sort of a TRAY is seen by what a long number is cut to. */
    private String trays() {
        StringBuilder told = new StringBuilder();
        for (int tray = 0; tray < 4; tray++) {
            told.append("tray ").append(tray).append(':');
            long number = map.read(tray, 0);
            for (int place = 1; place <= 60 && map.status() == 0; place++) {
                told.append(' ').append(number);
                number = map.read(tray, place);
            }
            told.append(" status ").append(map.status());
            if (map.write(tray, 0, 0x0123456789abcdefL)) {
                told.append(" sort of ").append(map.read(tray, 0));
            }
            told.append("; ");
        }
        return told.toString();
    }

    private String ground() {
        StringBuilder told = new StringBuilder();
        for (int y = 0; y < map.many(1); y++) {
            for (int x = 0; x < map.many(0); x++) {
                told.append(map.ground(x, y, 0)).append('+').append(map.ground(x, y, 2)).append(' ');
            }
            told.append("; ");
        }
        return told.toString();
    }

    private String bread() {
        StringBuilder told = new StringBuilder(" many");
        int[] many = new int[6];
        for (int what = 0; what < 6; what++) {
            many[what] = map.many(what);
            told.append(' ').append(many[what]);
        }
        for (int copy = 0; copy < many[2]; copy++) {
            told.append("; copy ");
            for (int cell = 0; cell < many[0] * many[1]; cell++) {
                told.append(map.cell(copy, cell % many[0], cell / many[0]));
            }
        }
        for (int company = 0; company < many[3]; company++) {
            told.append("; company");
            for (int what = 0; what < 6; what++) {
                told.append(' ').append(map.company(company, what));
            }
        }
        return told.toString();
    }

    /** What is on the tape is seen by reading it as a LAND. */
    private String tape() {
        int length = map.feed(0x20202020, 0x20202020, 0x20202020, 0x20202020, 0x20202020);
        int taken = map.land(length == BreadMap.NONE ? 900 : length);
        return length + " land " + taken + " fault " + map.fault(0) + " at " + map.fault(1) + (taken < 0 ? "" : ground() + bread());
    }

    private String marks() {
        StringBuilder told = new StringBuilder();
        int left = map.back();
        for (int turn = 0; turn < 4 && left != BreadMap.NONE; turn++) {
            told.append(left).append(" left").append(bread()).append(" run ").append(map.run(99)).append(" eaten ").append(map.many(4))
                .append("; ");
            left = map.back();
        }
        return told.append("status ").append(map.status()).toString();
    }
}
