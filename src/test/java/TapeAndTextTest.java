/** Promises 1 to 5: a new object, feed, end, town, fault. */
public final class TapeAndTextTest {
    private static final String SMALL = "places 2;lane 0 1 5;chance 1 1;";

    private TapeAndTextTest() {
    }

    public static void main(String[] args) {
        newObject();
        feed();
        end();
        town();
        fault();
        firstFault();
        numbers();
        tooMany();
        atTheEnd();
        tokens();
        Check.close("TapeAndTextTest");
    }

    private static void newObject() {
        HiddenBarrel x = new HiddenBarrel();
        Check.due("NONE", HiddenBarrel.NONE, -1);
        Check.due("new count(0)", x.count(0), 0);
        Check.due("new count(1)", x.count(1), 0);
        Check.due("new about", x.about(0, 0), -1);
        Check.due("new walk", x.walk(0), -1);
        Check.due("new mean", x.mean(0, 0), -1);
        for (int what = 0; what < 4; what++) {
            Check.due("new ran", x.ran(what), -1);
        }
        for (int k = 0; k < 3; k++) {
            Check.due("new again", x.again(k), false);
        }
        Check.due("new fault(0)", x.fault(0), 0);
        Check.due("new fault(1)", x.fault(1), -1);
        Check.due("new end(0)", x.end(0), 0);
        Check.due("new end(1)", x.end(1), -1);
    }

    private static void feed() {
        HiddenBarrel x = new HiddenBarrel();
        for (int i = 1; i <= 25; i++) {
            Check.due("feed " + i, x.feed(0, -1, 1, Integer.MIN_VALUE, Integer.MAX_VALUE), 20 * i);
        }
        Check.due("feed at 500", x.feed(1, 2, 3, 4, 5), -1);
        Check.due("end(500)", x.end(500), 500);
        Check.due("end(481)", x.end(481), 481);
        Check.due("feed at 481", x.feed(1, 2, 3, 4, 5), -1);
        Check.due("tape stays", x.end(482), -1);
        Check.due("tape stays at 481", x.end(481), 481);
        Check.due("end(480)", x.end(480), 480);
        Check.due("feed at 480", x.feed(1, 2, 3, 4, 5), 500);
        order();
        behind();
    }

    /** The highest byte of each number comes first, the first number first. */
    private static void order() {
        HiddenBarrel x = new HiddenBarrel();
        x.feed(0x706c6163, 0x65732032, 0x3b6c616e, 0x65203020, 0x3120353b);
        x.feed(0x6368616e, 0x63652031, 0x20373b00, 0, 0);
        x.end(31);
        Check.due("fed text", x.town(-1), 0);
        Check.due("its lane", x.lane(0, 0, 1), 5);
        Check.due("its chance", x.about(0, 11), 7);
    }

    private static void behind() {
        HiddenBarrel x = new HiddenBarrel();
        Check.put(x, "places 2;lane 0 1 5;");
        Check.due("feed behind", x.feed(0x6368616e, 0x63652031, 0x20373b20, 0x20202020, 0x0a0a0a20), 40);
        Check.due("text in two", x.town(-1), 0);
        Check.due("its chance", x.about(0, 2), 7);
    }

    private static void end() {
        HiddenBarrel x = new HiddenBarrel();
        Check.due("end(-1)", x.end(-1), -1);
        Check.due("end(MIN)", x.end(Integer.MIN_VALUE), -1);
        Check.due("end(1) of none", x.end(1), -1);
        x.feed(0, 0, 0, 0, 0);
        Check.due("end(21)", x.end(21), -1);
        Check.due("end(MAX)", x.end(Integer.MAX_VALUE), -1);
        Check.due("end(20)", x.end(20), 20);
        Check.due("end(7)", x.end(7), 7);
        Check.due("end(8)", x.end(8), -1);
        Check.due("feed behind 7", x.feed(0, 0, 0, 0, 0), 27);
        Check.due("end(-1) of 27", x.end(-1), -1);
        Check.due("still 27", x.end(27), 27);
        Check.due("end(0)", x.end(0), 0);
        Check.due("end(1)", x.end(1), -1);
    }

    private static void town() {
        HiddenBarrel x = new HiddenBarrel();
        Check.due("town(0) of none", Check.townAt(x, 0, SMALL), -2);
        Check.due("tape gone", x.end(1), -1);
        Check.due("town(-2)", Check.townAt(x, -2, SMALL), -2);
        Check.due("town(MIN)", Check.townAt(x, Integer.MIN_VALUE, SMALL), -2);
        Check.due("town(MAX)", Check.townAt(x, Integer.MAX_VALUE, SMALL), -2);
        Check.due("first", Check.town(x, SMALL), 0);
        Check.due("tape taken", x.end(1), -1);
        Check.due("town(1) of one", Check.townAt(x, 1, SMALL), -2);
        Check.due("second", Check.town(x, "places 3;lane 0 1 5;lane 0 2 6;chance 1 1;"), 1);
        Check.due("third", Check.town(x, "places 2;lane 0 1 7;chance 0 9;"), 2);
        Check.due("fourth", Check.town(x, SMALL), -2);
        Check.due("tape gone, fourth", x.end(1), -1);
        Check.due("count", x.count(0), 3);
        Check.due("town(3)", Check.townAt(x, 3, SMALL), -2);
        Check.due("fault of none such", x.fault(0), 0);
        inPlace(x);
        faultyInPlace(x);
    }

    private static void inPlace(HiddenBarrel x) {
        x.walk(1);
        x.stop(1, 0, 1);
        x.walk(1);
        x.diary(1, 2);
        x.walk(2);
        x.diary(2, 1);
        Check.due("in the place of 1", Check.townAt(x, 1, "places 4;lane 3 1 5;lane 0 2 6;lane 0 3 1;chance 3 8;"), 1);
        Check.due("walks gone", x.about(1, 6), 0);
        Check.due("diary gone", x.about(1, 7), 0);
        Check.due("places", x.about(1, 0), 4);
        Check.due("no old lane", x.lane(1, 0, 1), -1);
        Check.due("new walk", x.walk(1), 0);
        Check.due("it has no stops", x.stop(1, 0, 3), 1);
        Check.due("other town's walks", x.about(2, 6), 1);
        Check.due("other town's diary", x.about(2, 7), 1);
        Check.due("other town", x.lane(0, 0, 1), 5);
        Check.due("count in place", x.count(0), 3);
    }

    private static void faultyInPlace(HiddenBarrel x) {
        Check.due("faulty in the place of 2", Check.townAt(x, 2, "places 2;lane 0 1 5;chance 1 1"), -1);
        Check.due("fault", x.fault(0), 1);
        Check.due("its place", x.fault(1), 30);
        Check.due("tape taken with a fault", x.end(1), -1);
        Check.due("old town stays", x.lane(2, 0, 1), 7);
        Check.due("its walk stays", x.about(2, 6), 1);
        Check.due("its diary stays", x.about(2, 7), 1);
        Check.due("town(5)", x.town(5), -2);
        Check.due("no fault behind it", x.fault(0), 0);
        Check.due("no place behind it", x.fault(1), -1);
        Check.due("faulty, three towns", Check.town(x, "places"), -2);
        Check.due("no text was read", x.fault(0), 0);
    }

    private static void fault() {
        HiddenBarrel x = new HiddenBarrel();
        Check.town(x, "places 2 lane");
        Check.due("fault(0)", x.fault(0), 1);
        Check.due("fault(1)", x.fault(1), 9);
        Check.due("fault(2)", x.fault(2), -1);
        Check.due("fault(-1)", x.fault(-1), -1);
        Check.due("fault(MAX)", x.fault(Integer.MAX_VALUE), -1);
        Check.due("fault(MIN)", x.fault(Integer.MIN_VALUE), -1);
        Check.town(x, SMALL);
        Check.due("fault(0) behind a good one", x.fault(0), 0);
        Check.due("fault(1) behind a good one", x.fault(1), -1);
    }

    /** Fault 1 before all others, then the first by place. */
    private static void firstFault() {
        Check.fault("places 9;lane 0 0 0;:", 1, 20);
        Check.fault("places 9;lane 0 0 0", 1, 19);
        Check.fault("places 2;chance 0 100;dog 0 13;", 2, 18);
        Check.fault("places 2;lane 0 1 3;lane 1 0 99;", 3, 20);
        Check.fault("places 2;lane 0 1 3;dog 2 1;lane 1 0 3;", 2, 24);
        Check.fault("places 2;lane 0 1 21;lane 1 0 3;", 2, 18);
        Check.fault("places 9;dog 0 13;", 2, 7);
        Check.fault("places 2;chance 5 0;", 2, 16);
        Check.fault("", 1, 0);
        Check.fault("  \n", 1, 3);
        Check.fault("lane 0 1 3;", 1, 0);
        Check.fault("places;", 1, 6);
        Check.fault("places 2", 1, 8);
        Check.fault("places 2  ", 1, 10);
        Check.fault("places 2 3;", 1, 9);
        Check.fault("places 2;;", 1, 9);
        Check.fault("places 2;places 2;", 1, 9);
        Check.fault("places 2;lane 0 1;", 1, 17);
        Check.fault("places 2;lane 0 1 2 3;", 1, 20);
        Check.fault("places 2;prize 1 2;", 1, 17);
        Check.fault("places 2;dog 1;", 1, 14);
        Check.fault("places 2;dog a;", 1, 13);
        Check.fault("places 2;17;", 1, 9);
        Check.fault("places 2;prizes 1;", 1, 9);
        Check.fault("places 2;dig 0 1;dogg 0 1;", 1, 17);
        Check.fault("places 2;chance 0", 1, 17);
    }

    private static void numbers() {
        Check.fault("places 1;lane 0 1 3;chance 0 1;", 2, 7);
        Check.fault("places 0;", 2, 7);
        Check.fault("places 9999;", 2, 7);
        Check.fault("places 2;lane 2 0 3;", 2, 14);
        Check.fault("places 2;lane 0 2 3;", 2, 16);
        Check.fault("places 2;lane 1 1 3;", 2, 16);
        Check.fault("places 2;lane 2 2 3;", 2, 14);
        Check.fault("places 2;lane 0 1 0;", 2, 18);
        Check.fault("places 2;lane 0 1 21;", 2, 18);
        Check.fault("places 3;lane 0 1 2;lane 0 3 2;", 2, 27);
        Check.fault("places 2;lane 0 1 20;chance 0 99;", 0, -1);
        Check.fault("places 2;lane 0 1 1;chance 0 100;", 2, 29);
        Check.fault("places 2;chance 2 1;", 2, 16);
        Check.fault("places 2;dog 0 0;", 2, 15);
        Check.fault("places 2;dog 1 13;", 2, 15);
        Check.fault("places 2;dog 2 1;", 2, 13);
        Check.fault("places 2;dig 0 0;", 2, 15);
        Check.fault("places 2;dig 0 100;", 2, 15);
        Check.fault("places 2;dig 8 1;", 2, 13);
        Check.fault("places 2;prize 1000;", 2, 15);
        Check.fault("places 2;move 13;", 2, 14);
        Check.fault("places 2;lane 0 1 1;chance 0 1;dog 0 1;dog 1 12;dig 0 1;dig 1 99;prize 999;move 12;", 0, -1);
        Check.fault("places 2;lane 0 1 1;chance 0 1;prize 0;move 0;", 0, -1);
    }

    private static String lines(String head, String line, int n) {
        StringBuilder s = new StringBuilder(head);
        for (int i = 0; i < n; i++) {
            s.append(line);
        }
        return s.toString();
    }

    /** A town of 8 places with the first so many of all lanes. */
    private static String lanes(int n) {
        StringBuilder s = new StringBuilder("places 8;");
        for (int i = 0; n > 0; i++) {
            int a = i / 8;
            int b = i % 8;
            if (a < b) {
                s.append("lane ").append(a).append(' ').append(b).append(" 1;");
                n--;
            }
        }
        return s.toString();
    }

    private static void tooMany() {
        String two = "places 2;lane 0 1 3;chance 1 1;";
        Check.fault(lines(two, "prize 5;", 38), 0, -1);
        Check.fault(lines(two, "prize 5;", 39), 3, 31 + 38 * 8);
        Check.fault(lines(two, "prize 5;", 38) + "dog 9 99;", 3, 31 + 38 * 8);
        Check.fault(lines(two, "prize 5;", 38) + "prize 1000", 1, 31 + 38 * 8 + 10);
        Check.fault(lines(two, "prize 5;", 37) + "dog 9 9;prize 5;", 2, 31 + 37 * 8 + 4);
        Check.fault(lanes(20) + "chance 0 1;", 0, -1);
        Check.fault(lanes(21) + "chance 0 1;", 3, 9 + 20 * 11);
        Check.fault(lanes(20) + "lane 9 9 99;chance 0 1;", 3, 9 + 20 * 11);
        Check.fault("places 3;lane 0 1 3;lane 1 2 3;lane 2 1 9;chance 0 1;", 3, 31);
        Check.fault("places 3;lane 0 1 3;lane 1 2 3;lane 1 2 0;chance 0 1;", 3, 31);
        HiddenBarrel x = Check.with(lanes(20) + "chance 0 1;");
        Check.due("20 lanes", x.about(0, 1), 20);
    }

    private static void atTheEnd() {
        Check.fault("places 2;", 4, 9);
        Check.fault("places 2;lane 0 1 3;chance 1 5;chance 1 0;", 4, 42);
        Check.fault("places 2;lane 0 1 3;chance 1 5;chance 1 0; \n", 4, 44);
        Check.fault("places 2;chance 1 5;", 5, 20);
        Check.fault("places 4;lane 0 1 3;lane 2 3 3;chance 1 5;", 5, 42);
        Check.fault("places 4;lane 0 1 3;lane 2 3 3;chance 1 0;", 4, 42);
        Check.fault("places 4;lane 0 1 3;lane 2 3 3;chance 1 1;move 12;", 5, 50);
        Check.fault("places 3;lane 0 1 3;lane 1 2 3;chance 1 5;move 7;", 6, 49);
        Check.fault("places 3;lane 0 1 3;lane 1 2 3;chance 1 5;move 6;", 0, -1);
        Check.fault("places 4;lane 0 1 3;lane 0 2 3;lane 0 3 3;chance 1 5;move 5;", 6, 60);
        Check.fault("places 4;lane 0 1 3;lane 0 2 3;lane 0 3 3;chance 1 5;move 4;", 0, -1);
        Check.fault("places 4;lane 0 1 3;lane 0 2 3;lane 0 3 3;chance 1 5;move 12;move 0;", 0, -1);
        Check.fault("places 2;lane 0 1 3;chance 1 5;move 12;", 0, -1);
    }

    private static void tokens() {
        Check.fault("places2;lane0 1 3;chance1 1;", 0, -1);
        Check.fault("\n places\n2 ;\nlane 0  1 3 ; chance 1 1\n;\n ", 0, -1);
        Check.fault("places 0002;lane 0000 0001 0003;chance 1 0001;", 0, -1);
        Check.fault("places 00002;", 1, 7);
        Check.fault("places 2;prize 12345;", 1, 15);
        Check.fault("places 2;lane 0 1 3;chance 1 1;move 12345", 1, 36);
        Check.fault("12345", 1, 0);
        Check.fault("Places 2;", 1, 0);
        Check.fault("plAces 2;", 1, 0);
        Check.fault("placesA 2;", 1, 6);
        Check.fault("pla ces 2;", 1, 0);
        Check.fault("places\t2;", 1, 6);
        Check.fault("places 2\r;", 1, 8);
        Check.fault("places 2:", 1, 8);
        Check.fault("places 2/;", 1, 8);
        Check.fault("places -2;", 1, 7);
        Check.fault("places 2;\u0000", 1, 9);
        Check.fault("places 2;\u00e9", 1, 9);
        Check.fault("places 2;\u00ff", 1, 9);
        Check.fault("places 2;`", 1, 9);
        Check.fault("places 2;{", 1, 9);
        Check.fault("places 2;lane 0 1 3;chance 1 1;move 1 ;", 0, -1);
        StringBuilder full = new StringBuilder("places 2;lane 0 1 3;chance 1 1;");
        while (full.length() < 500) {
            full.append(full.length() % 2 == 0 ? ' ' : '\n');
        }
        Check.fault(full.toString(), 0, -1);
        Check.fault("places 2;" + ";".repeat(491), 1, 9);
        Check.fault("a".repeat(500), 1, 0);
        Check.fault("7".repeat(500), 1, 0);
    }
}
