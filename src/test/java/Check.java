/** Counts answers that are not due, and tells them. */
final class Check {
    static final long UNTOLD = -1000000000000L;
    static final long NO_GAIN = -4000000000000000000L;

    private static int asked;
    private static int wrong;

    private Check() {
    }

    static void due(String call, long got, long want) {
        asked++;
        if (got != want) {
            wrong++;
            if (wrong <= 40) {
                System.out.println(call + " answered " + got + ", due is " + want);
            }
        }
    }

    static void due(String call, boolean got, boolean want) {
        due(call, got ? 1 : 0, want ? 1 : 0);
    }

    /** The tape becomes such a text; its signs are bytes. */
    static void put(HiddenBarrel x, String text) {
        x.end(0);
        int n = text.length();
        for (int i = 0; i < n; i += 20) {
            x.feed(four(text, i), four(text, i + 4), four(text, i + 8), four(text, i + 12), four(text, i + 16));
        }
        x.end(n);
    }

    private static int four(String text, int at) {
        int number = 0;
        for (int i = at; i < at + 4; i++) {
            number = number << 8 | (i < text.length() ? text.charAt(i) & 255 : 0);
        }
        return number;
    }

    static int town(HiddenBarrel x, String text) {
        put(x, text);
        return x.town(HiddenBarrel.NONE);
    }

    static int townAt(HiddenBarrel x, int at, String text) {
        put(x, text);
        return x.town(at);
    }

    static HiddenBarrel with(String text) {
        HiddenBarrel x = new HiddenBarrel();
        due("town of " + text, town(x, text), 0);
        return x;
    }

    /** A text with a fault: which, and where. */
    static void fault(String text, int fault, int place) {
        HiddenBarrel x = new HiddenBarrel();
        due("town of '" + text + "'", town(x, text), fault == 0 ? 0 : -1);
        due("fault(0) of '" + text + "'", x.fault(0), fault);
        due("fault(1) of '" + text + "'", x.fault(1), place);
        due("count(0) behind '" + text + "'", x.count(0), fault == 0 ? 1 : 0);
    }

    static void close(String name) {
        System.out.println(name + ": " + asked + " answers, " + wrong + " not as due");
        if (wrong != 0 || asked == 0) {
            System.exit(1);
        }
    }
}
