/** Promises 29, 30 and 37 to 40: chase, caught, diary, forget, likely, next. */
public final class NightsTest {
    private static final String TOWN = "places 3;lane 0 1 2;lane 0 2 2;chance 0 6;chance 1 3;dog 0 6;dig 0 2;prize 20;move 3;";

    private NightsTest() {
    }

    public static void main(String[] args) {
        chase();
        caught();
        still();
        diary();
        forget();
        likely();
        next();
        Check.close("NightsTest");
    }

    private static void chase() {
        HiddenBarrel x = Check.with(TOWN);
        Check.due("one day, of several the least", x.chase(0, 1, 0), 0);
        Check.due("day 1 of 1", x.chase(0, 1, 1), -1);
        Slow t = new SlowText(TOWN).town;
        for (int days = 1; days <= 5; days++) {
            t.chase(days);
            for (int k = 0; k < days; k++) {
                Check.due("chase " + days + " " + k, x.chase(0, days, k), t.chaseRow[k]);
            }
            Check.due("caught " + days, x.caught(0, days), t.chaseFound);
            Check.due("chase " + days + " behind", x.chase(0, days, days), -1);
            Check.due("chase " + days + " -1", x.chase(0, days, -1), -1);
            Check.due("chase " + days + " MAX", x.chase(0, days, Integer.MAX_VALUE), -1);
        }
        Check.due("0 days", x.chase(0, 0, 0), -1);
        Check.due("6 days", x.chase(0, 6, 0), -1);
        Check.due("-1 days", x.chase(0, -1, 0), -1);
        Check.due("chase of town 1", x.chase(1, 1, 0), -1);
        Check.due("chase of town -1", x.chase(-1, 1, 0), -1);
    }

    /** Two days: at 0 it finds 3 of 9, then by a night 3, 3, 0 become 27, 36, 9 twelfths. */
    private static void caught() {
        HiddenBarrel x = Check.with(TOWN);
        Check.due("6 * 6 * 12", x.caught(0, 1), 432);
        Check.due("3 and 36 / 12", x.caught(0, 2), 6 * 20736);
        Check.due("then at 1", x.chase(0, 2, 1), 1);
        Check.due("0 days", x.caught(0, 0), -1);
        Check.due("6 days", x.caught(0, 6), -1);
        Check.due("-1 days", x.caught(0, -1), -1);
        Check.due("MAX days", x.caught(0, Integer.MAX_VALUE), -1);
        Check.due("caught of town 1", x.caught(1, 1), -1);
        Check.due("caught of town -1", x.caught(-1, 1), -1);
        Check.town(x, "places 3;lane 0 1 2;lane 0 2 2;chance 2 9;");
        Check.due("another town", x.caught(1, 2), 9 * 20736);
        Check.due("as before", x.caught(0, 2), 6 * 20736);
        Check.due("its day 1", x.chase(1, 2, 0), 0);
        x.diary(0, 1);
        Check.due("the diary is no matter", x.caught(0, 1), 432);
        x.image(0);
        Check.townAt(x, 0, "places 2;lane 0 1 2;chance 0 1;");
        Check.due("in its place", x.caught(0, 2), 20736);
        x.again(0);
        Check.due("again", x.caught(0, 2), 6 * 20736);
    }

    /** Without MOVE it stays: five looks at one place, or at others. */
    private static void still() {
        HiddenBarrel x = Check.with("places 2;lane 0 1 2;chance 1 1;");
        Check.due("found surely", x.caught(0, 5), 61917364224L);
        for (int k = 0; k < 5; k++) {
            Check.due("the least row " + k, x.chase(0, 5, k), k < 4 ? 0 : 1);
        }
        HiddenBarrel y = Check.with("places 2;lane 0 1 2;chance 0 1;move 12;");
        Check.due("it goes to and fro", y.caught(0, 2), 20736);
        Check.due("at 0 first", y.chase(0, 2, 0), 0);
        Check.due("then at 0, too", y.chase(0, 2, 1), 0);
        HiddenBarrel z = Check.with("places 8;lane 0 1 1;lane 1 2 1;lane 2 3 1;lane 3 4 1;lane 4 5 1;lane 5 6 1;lane 6 7 1;"
                + "chance 0 99;chance 1 99;chance 2 99;chance 3 99;chance 4 99;chance 5 99;chance 6 99;chance 7 99;"
                + "dog 0 1;dog 7 1;move 6;");
        Slow t = new SlowText("places 8;lane 0 1 1;lane 1 2 1;lane 2 3 1;lane 3 4 1;lane 4 5 1;lane 5 6 1;lane 6 7 1;"
                + "chance 0 99;chance 1 99;chance 2 99;chance 3 99;chance 4 99;chance 5 99;chance 6 99;chance 7 99;"
                + "dog 0 1;dog 7 1;move 6;").town;
        t.chase(5);
        Check.due("eight places", z.caught(0, 5), t.chaseFound);
        for (int k = 0; k < 5; k++) {
            Check.due("eight places, day " + k, z.chase(0, 5, k), t.chaseRow[k]);
        }
    }

    private static void diary() {
        HiddenBarrel x = Check.with(TOWN);
        Check.due("diary at 3", x.diary(0, 3), -1);
        Check.due("diary at -1", x.diary(0, -1), -1);
        Check.due("diary at MAX", x.diary(0, Integer.MAX_VALUE), -1);
        Check.due("diary of town 1", x.diary(1, 0), -1);
        Check.due("diary of town -1", x.diary(-1, 0), -1);
        Check.due("no days", x.about(0, 7), 0);
        for (int d = 1; d <= 7; d++) {
            Check.due("day", x.diary(0, d % 3), d);
        }
        Check.due("eighth day", x.diary(0, 0), -1);
        Check.due("days", x.about(0, 7), 7);
        Check.town(x, TOWN);
        Check.due("another's first day", x.diary(1, 0), 1);
    }

    private static void forget() {
        HiddenBarrel x = Check.with(TOWN);
        Check.due("forget nothing", x.forget(0), false);
        Check.due("forget of town 1", x.forget(1), false);
        Check.due("forget of town -1", x.forget(-1), false);
        x.diary(0, 1);
        x.diary(0, 1);
        Check.due("forget", x.forget(0), true);
        Check.due("forget twice", x.forget(0), false);
        Check.due("no days", x.about(0, 7), 0);
        Check.due("likely as at first", x.likely(0, 0, 0), 2);
        Check.due("a first day", x.diary(0, 0), 1);
        Check.due("the old days are gone", x.likely(0, 1, 1), 2);
        x.walk(0);
        x.forget(0);
        Check.due("walks stay", x.about(0, 6), 1);
    }

    private static void fractions(HiddenBarrel x, String when, long... want) {
        for (int a = 0; a < want.length / 2; a++) {
            Check.due("likely at " + a + " above, " + when, x.likely(0, a, 0), want[2 * a]);
            Check.due("likely at " + a + " below, " + when, x.likely(0, a, 1), want[2 * a + 1]);
        }
    }

    /** Behind a look at 0 and a night 27, 36, 9; a look at 1 leaves 27, 0, 9: by a night 189, 81, 162. */
    private static void likely() {
        HiddenBarrel x = Check.with(TOWN);
        fractions(x, "at first", 2, 3, 1, 3, 0, 1);
        x.diary(0, 0);
        fractions(x, "behind 0", 1, 2, 1, 2, 0, 1);
        x.diary(0, 1);
        fractions(x, "behind 0 1", 3, 4, 0, 1, 1, 4);
        x.diary(0, 2);
        fractions(x, "behind 0 1 2", 7, 10, 3, 10, 0, 1);
        Check.due("likely 2", x.likely(0, 0, 2), -1);
        Check.due("likely -1", x.likely(0, 0, -1), -1);
        Check.due("likely at 3", x.likely(0, 3, 0), -1);
        Check.due("likely at -1", x.likely(0, -1, 1), -1);
        Check.due("likely of town 1", x.likely(1, 0, 0), -1);
        Check.due("likely of town -1", x.likely(-1, 0, 0), -1);
        HiddenBarrel no = Check.with("places 2;lane 0 1 2;chance 1 5;");
        no.diary(0, 1);
        fractions(no, "when it can't be", 0, 1, 0, 1);
        Check.due("can't be, 2", no.likely(0, 1, 2), -1);
        Check.due("can't be, at 2", no.likely(0, 2, 1), -1);
        HiddenBarrel seven = Check.with("places 8;lane 0 1 1;lane 1 2 1;lane 2 3 1;lane 3 4 1;lane 4 5 1;lane 5 6 1;"
                + "lane 6 7 1;chance 0 99;chance 1 97;chance 2 98;chance 3 95;chance 4 99;chance 5 97;chance 6 98;"
                + "chance 7 99;dog 3 1;dog 4 5;move 5;");
        for (int d = 0; d < 7; d++) {
            seven.diary(0, 3 + d % 2);
        }
        Check.due("great numbers", seven.likely(0, 0, 1) > 1000000000000L, true);
        Check.due("great numbers, above", seven.likely(0, 0, 0) > 0, true);
    }

    private static void next() {
        HiddenBarrel x = Check.with(TOWN);
        Check.due("6 * 6 against 3 * 12", x.next(0), 0);
        x.diary(0, 0);
        Check.due("behind 0", x.next(0), 1);
        x.diary(0, 1);
        Check.due("27 * 6 against 9 * 12", x.next(0), 0);
        Check.due("next of town 1", x.next(1), -1);
        Check.due("next of town -1", x.next(-1), -1);
        HiddenBarrel no = Check.with("places 2;lane 0 1 2;chance 1 5;");
        Check.due("it is at 1", no.next(0), 1);
        no.diary(0, 1);
        Check.due("nowhere", no.next(0), -1);
        HiddenBarrel faint = Check.with("places 2;lane 0 1 2;chance 1 1;dog 1 1;");
        Check.due("the least that can be", faint.next(0), 1);
        HiddenBarrel same = Check.with("places 3;lane 0 1 2;lane 0 2 2;chance 1 2;chance 2 1;dog 1 6;");
        Check.due("of several the least", same.next(0), 1);
        HiddenBarrel near = Check.with("places 3;lane 0 1 2;lane 1 2 2;chance 0 5;chance 1 4;chance 2 4;move 6;dog 0 6;");
        near.diary(0, 0);
        Check.due("no night behind the last day", near.next(0), 1);
        HiddenBarrel stay = Check.with("places 3;lane 0 1 2;lane 0 2 2;chance 1 9;chance 2 4;move 6;");
        stay.diary(0, 2);
        Check.due("it is still at 1", stay.next(0), 1);
        Check.due("surely", stay.likely(0, 1, 1), 1);
    }
}
