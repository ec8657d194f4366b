import java.lang.reflect.Method;
import java.util.ArrayList;
import java.util.HashMap;
import java.util.List;
import java.util.Map;

/**
 * Runs of 512 calls that are drawn, with numbers that can be, numbers next to them and numbers far
 * out, each answer held against SlowBarrel: so whatever a call changes, or must not change, is seen.
 */
public final class StateTest {
    /**
     * The calls, each with the kind of its numbers: a where a town goes, b both or not, d days, e an
     * end, h of twelve, i any, k an image, m minutes, M till a bell, n looks, p a place, q a what,
     * Q a what with places, A a what of about, s a set, t a town, w a walk, g a weight.
     */
    private static final String[] CALLS = {"feed i i i i i", "end e", "town a", "fault q", "about t A", "lane t p p", "way t p p",
        "walk t", "stop t w p", "weigh t w g", "found t w p", "mean t w", "best t q", "two t q", "barrels t b q", "more t m q",
        "where t q", "both t Q", "goes t q q", "tree t", "density t p q", "worth t", "round t p", "look t n", "left t n",
        "gain t n", "leave t", "chase t d q", "caught t d", "bell t M q", "postman t Q", "guard t q", "open t m q", "right t h s",
        "box t h", "diary t p", "forget t", "likely t p q", "next t", "run t n i", "ran q", "count q", "image k", "again k"};
    /** Calls that change something, drawn more often. */
    private static final String[] OFTEN = {"walk t", "stop t w p", "stop t w p", "stop t w p", "weigh t w g", "diary t p", "mean t w",
        "where t q", "likely t p q", "found t w p", "run t n i", "ran q", "image k", "again k"};

    private static final Map<String, Method> FACE = new HashMap<>();
    private static final Map<String, Method> MODEL = new HashMap<>();

    private final Towns drawn;
    private final List<String> calls = new ArrayList<>();
    private HiddenBarrel x;
    private SlowBarrel y;
    private int made;
    private boolean wrong;

    private StateTest(Towns drawn) {
        this.drawn = drawn;
    }

    public static void main(String[] args) throws ReflectiveOperationException {
        int times = args.length > 0 ? Integer.parseInt(args[0]) : 40;
        Towns drawn = new Towns(args.length > 1 ? Long.parseLong(args[1]) : 9);
        for (Method m : HiddenBarrel.class.getDeclaredMethods()) {
            FACE.put(m.getName(), m);
        }
        for (Method m : SlowBarrel.class.getDeclaredMethods()) {
            MODEL.put(m.getName(), m);
        }
        StateTest test = new StateTest(drawn);
        for (int i = 0; i < times; i++) {
            test.run();
        }
        Check.close("StateTest");
    }

    private void run() throws ReflectiveOperationException {
        x = new HiddenBarrel();
        y = new SlowBarrel();
        made = 0;
        wrong = false;
        calls.clear();
        int few = drawn.below(3);
        for (int i = 0; i < 2; i++) {
            tell(-1);
        }
        while (made < 512) {
            if (drawn.below(60) == 0) {
                tell(drawn.below(5) - 1);
            }
            String[] from = drawn.below(3) < few ? OFTEN : CALLS;
            String[] call = from[drawn.below(from.length)].split(" ");
            if (drawn.below(3) == 0 || !call[0].equals("feed") && !call[0].equals("again") && !call[0].equals("town")) {
                Object[] numbers = new Object[call.length - 1];
                for (int k = 0; k < numbers.length; k++) {
                    numbers[k] = call[k + 1].equals("b") ? (Object) (drawn.below(2) == 0) : (Object) number(call[k + 1].charAt(0));
                }
                call(call[0], numbers);
            }
        }
    }

    private void call(String name, Object... numbers) throws ReflectiveOperationException {
        if (made >= 512 || wrong) {
            made++;
            return;
        }
        made++;
        calls.add(name + java.util.Arrays.toString(numbers));
        String got = FACE.get(name).invoke(x, numbers).toString();
        String want = MODEL.get(name).invoke(y, numbers).toString();
        Check.due(calls.get(calls.size() - 1), got.equals(want), true);
        if (!got.equals(want)) {
            wrong = true;
            System.out.println(got + " for " + want + " behind " + calls);
        }
    }

    /** A text onto the tape, twenty bytes a call, and a town of it; some texts have faults. */
    private void tell(int at) throws ReflectiveOperationException {
        String text = drawn.below(4) == 0 ? drawn.text() : drawn.town(2, 5, drawn.below(8) == 0 ? 5 : 3).text();
        if (text.length() > 180) {
            return;
        }
        call("end", 0);
        for (int i = 0; i < text.length(); i += 20) {
            Object[] n = new Object[5];
            for (int k = 0; k < 5; k++) {
                int number = 0;
                for (int b = i + 4 * k; b < i + 4 * k + 4; b++) {
                    number = number << 8 | (b < text.length() ? text.charAt(b) & 255 : 0);
                }
                n[k] = number;
            }
            call("feed", n);
        }
        call("end", text.length());
        call("town", at);
        call("fault", 0);
        call("fault", 1);
    }

    private int between(int first, int last) {
        return first + drawn.below(last - first + 1);
    }

    private int number(char kind) {
        if (kind == 'i' || drawn.below(25) == 0) {
            int[] far = Edges.outside(0, -1);
            return drawn.below(2) == 0 ? far[drawn.below(far.length)] : drawn.below(1 << 30) * between(-2, 3);
        }
        switch (kind) {
            case 't':
                return drawn.below(8) == 0 ? between(-1, 3) : drawn.below(2);
            case 'a':
                return between(-1, 3);
            case 'p':
                return drawn.below(8) == 0 ? between(-1, 8) : drawn.below(5);
            case 'w':
                return drawn.below(6) == 0 ? between(-1, 8) : drawn.below(3);
            case 'g':
                return drawn.below(4) == 0 ? between(98, 101) : between(-1, 20);
            case 'd':
                return drawn.below(12) == 0 ? between(0, 6) : between(0, 4);
            case 'e':
                return drawn.below(2) == 0 ? between(0, 60) : between(0, 501);
            case 'h':
                return between(-1, 13);
            case 'k':
                return between(drawn.below(6) == 0 ? -1 : 0, drawn.below(6) == 0 ? 3 : 2);
            case 'm':
                return between(0, drawn.below(2) == 0 ? 3 : 21);
            case 'M':
                return drawn.below(5) == 0 ? between(998, 1001) : between(-1, 60);
            case 'n':
                return drawn.below(3) == 0 ? between(60, 66) : between(-1, 30);
            case 'Q':
                return drawn.below(3) == 0 ? between(-1, 3) : between(9, 18);
            case 'A':
                return between(-1, 41);
            case 's':
                return drawn.below(4) == 0 ? between(-1, 257) : drawn.below(33);
            default:
                return between(drawn.below(5) == 0 ? -1 : 0, drawn.below(5) == 0 ? 10 : 4);
        }
    }
}
