import java.util.ArrayList;
import java.util.List;

/**
 * Long runs of calls that are drawn, with right and wrong numbers: nothing is thrown, wrong calls
 * change nothing, and what one object answers of three towns that come, go and come again is what a
 * new object with the one town answers.
 */
public final class MixedTest {
    private static final int[] WILD = {-1, -2, 0, 1, 2, 3, 4, 7, 8, 9, 10, 16, 20, 31, 64, 65, 99, 100, 999, 1000, 1 << 20,
        Integer.MAX_VALUE, Integer.MAX_VALUE - 1, Integer.MIN_VALUE, Integer.MIN_VALUE + 1, Integer.MIN_VALUE + 10, -10};

    private MixedTest() {
    }

    public static void main(String[] args) {
        int times = args.length > 0 ? Integer.parseInt(args[0]) : 12;
        Towns drawn = new Towns(args.length > 1 ? Long.parseLong(args[1]) : 5);
        for (int i = 0; i < times; i++) {
            comeAndGo(drawn);
            for (int k = 0; k < 8; k++) {
                wild(drawn);
            }
        }
        Check.close("MixedTest");
    }

    private static final int ASKED = 30;

    /** A call that tells of a town, by number. */
    private static long ask(HiddenBarrel x, int town, int call, int a, int b) {
        switch (call) {
            case 0:
                return x.best(town, a % 10);
            case 1:
                return x.two(town, a % 4);
            case 2:
                return x.barrels(town, b % 2 == 0, a % 10);
            case 3:
                return x.more(town, b, a % 4);
            case 4:
            case 5:
            case 6:
                return x.both(town, a);
            case 7:
            case 8:
                return x.goes(town, a % 5, b % 3);
            case 9:
                return x.guard(town, a % 4);
            case 10:
            case 11:
            case 12:
                return x.open(town, b % 5, a % 5);
            case 13:
                return x.density(town, a % 9, b % 3);
            case 14:
                return x.round(town, a % 9);
            case 15:
                return x.postman(town, a);
            case 16:
                return x.look(town, a);
            case 17:
                return x.left(town, a);
            case 18:
                return x.gain(town, a);
            case 19:
            case 20:
            case 21:
                return x.chase(town, b % 5, a % 5);
            case 22:
                return x.caught(town, b % 5);
            case 23:
                return x.bell(town, a * 10, b % 12);
            case 24:
                return x.box(town, a % 14);
            case 25:
                return x.right(town, a % 14, b);
            case 26:
                return x.about(town, a);
            case 27:
                return x.way(town, a % 9, b % 9);
            case 28:
                return x.leave(town);
            default:
                return x.worth(town);
        }
    }

    private static void comeAndGo(Towns drawn) {
        HiddenBarrel x = new HiddenBarrel();
        List<String> texts = new ArrayList<>();
        List<List<String>> images = new ArrayList<>();
        for (int k = 0; k < 3; k++) {
            images.add(null);
        }
        for (int i = 0; i < 60; i++) {
            int what = drawn.below(4);
            int k = drawn.below(3);
            if (what == 0 && images.get(k) != null) {
                Check.due("again", x.again(k), true);
                texts = new ArrayList<>(images.get(k));
            } else if (what == 1) {
                Check.due("image", x.image(k), true);
                images.set(k, new ArrayList<>(texts));
            } else {
                renew(drawn, x, texts);
            }
            for (int asked = 0; asked < 3 && !texts.isEmpty(); asked++) {
                judge(drawn, x, texts);
            }
        }
    }

    private static void renew(Towns drawn, HiddenBarrel x, List<String> texts) {
        int at = drawn.below(4) - 1;
        String text = drawn.town(2, 5, 4).text();
        if (texts.size() < 3 && drawn.below(2) == 0) {
            at = -1;
        }
        if (text.length() > 100) {
            return;
        }
        int want = at == -1 ? texts.size() < 3 ? texts.size() : -2 : at < texts.size() ? at : -2;
        Check.due("town(" + at + ")", Check.townAt(x, at, text), want);
        if (want >= 0 && at == -1) {
            texts.add(text);
        } else if (want >= 0) {
            texts.set(at, text);
        }
    }

    private static void judge(Towns drawn, HiddenBarrel x, List<String> texts) {
        int town = drawn.below(texts.size());
        HiddenBarrel y = new HiddenBarrel();
        Check.town(y, texts.get(town));
        int call = drawn.below(ASKED);
        int a = drawn.below(40);
        int b = drawn.below(22);
        String head = "call " + call + " with " + a + ", " + b + " of '" + texts.get(town) + "'";
        Check.due(head, ask(x, town, call, a, b), ask(y, 0, call, a, b));
    }

    private static int wildNumber(Towns drawn) {
        return drawn.below(3) == 0 ? drawn.below(1 << 30) * (1 - 2 * drawn.below(2)) : WILD[drawn.below(WILD.length)];
    }

    /** Whatever the numbers are, there is an answer: 40 rounds of at most 11 calls, and three towns. */
    private static void wild(Towns drawn) {
        HiddenBarrel x = new HiddenBarrel();
        for (int round = 0; round < 40; round++) {
            if (round % 13 == 1) {
                Check.townAt(x, drawn.below(4) - 1, drawn.town(2, 5, 4).text());
            }
            int town = drawn.below(4) == 0 ? wildNumber(drawn) : drawn.below(3);
            wildCall(x, drawn.below(45), town, wildNumber(drawn), wildNumber(drawn));
        }
        Check.due("at most three towns", x.count(0) >= 0 && x.count(0) <= 3, true);
    }

    private static void wildCall(HiddenBarrel x, int call, int town, int a, int b) {
        switch (call) {
            case 30:
                x.feed(town, a, b, town, a);
                break;
            case 31:
                x.end(a);
                break;
            case 32:
                x.town(a);
                break;
            case 33:
                x.fault(a);
                break;
            case 34:
                x.lane(town, a, b);
                x.way(town, a, b);
                break;
            case 35:
                x.walk(town);
                x.stop(town, a, b);
                x.stop(town, 0, b);
                break;
            case 36:
                x.weigh(town, a, b);
                x.found(town, a, b);
                break;
            case 37:
                x.mean(town, a);
                x.where(town, a);
                break;
            case 38:
                x.diary(town, a);
                x.likely(town, a, b);
                break;
            case 39:
                x.next(town);
                x.forget(town);
                break;
            case 40:
                x.run(town, a, b);
                x.ran(a);
                break;
            case 41:
                x.count(a);
                x.image(a);
                break;
            case 42:
                x.again(a);
                break;
            case 43:
                wildAsk(x, town, a, b);
                break;
            case 44:
                x.open(town, a, b);
                x.chase(town, a, b);
                x.bell(town, a, b);
                break;
            default:
                ask(x, town, call, a, b);
        }
    }

    private static void wildAsk(HiddenBarrel x, int town, int a, int b) {
        x.best(town, a);
        x.two(town, a);
        x.barrels(town, (b & 1) == 0, a);
        x.more(town, a, b);
        x.goes(town, a, b);
        x.guard(town, a);
        x.density(town, a, b);
        x.round(town, a);
        x.caught(town, a);
        x.right(town, a, b);
        x.box(town, a);
    }
}
