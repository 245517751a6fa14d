/** What the tests of the promises share: answers that are due, and texts put on the TAPE. */
final class Due {
    static final String DIP = "dip 5;";
    private static int wrong;

    private Due() {
    }

    static void due(String call, long got, long want) {
        if (got != want) {
            wrong++;
            System.out.println(call + " answered " + got + ", due is " + want);
        }
    }

    static void due(String call, boolean got, boolean want) {
        due(call, got ? 1 : 0, want ? 1 : 0);
    }

    static void finish() {
        if (wrong > 0) {
            System.exit(1);
        }
    }

    /** Puts signs 0 .. 255 behind the TAPE, twenty at a time, and takes off what is too much. */
    static void put(PointFirst x, int had, String text) {
        for (int i = 0; i < text.length(); i += 20) {
            int[] v = new int[5];
            for (int k = 0; k < 20; k++) {
                v[k / 4] = v[k / 4] << 8 | (i + k < text.length() ? text.charAt(i + k) & 255 : 'z');
            }
            x.feed(v[0], v[1], v[2], v[3], v[4]);
        }
        x.end(had + text.length());
    }

    static int tell(PointFirst x, int k, int who, String text) {
        x.end(0);
        put(x, 0, text);
        return x.text(k, who);
    }

    static void law(PointFirst x, int k, String text, int lines) {
        due("text " + k + " <" + text + ">", tell(x, k, 0, text), lines);
        due("fault(0) of <" + text + ">", x.fault(0), 0);
        due("fault(1) of <" + text + ">", x.fault(1), -1);
    }

    static void plan(PointFirst x, int who, String text, int orders) {
        due("plan <" + text + ">", tell(x, 2, who, text), orders);
        due("fault(0) of <" + text + ">", x.fault(0), 0);
    }

    static void fault(PointFirst x, int k, String text, int which, int place) {
        due("text " + k + " <" + text + ">", tell(x, k, 0, text), -1);
        due("fault(0) of <" + text + ">", x.fault(0), which);
        due("fault(1) of <" + text + ">", x.fault(1), place);
    }

    /** One SPEAR (3, 0) that dips, one THROWER of POWER 99. */
    static PointFirst ready() {
        PointFirst x = new PointFirst();
        x.spear(3, 0);
        x.thrower(99);
        tell(x, 0, 0, DIP);
        return x;
    }
}
