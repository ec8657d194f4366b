/** The edges that promises 1 to 5 and the texts of term 1 name, one test for each of their sentences. */
public final class EdgesTapeTest {
    private static final String GOOD = "places 2;lane 0 1 5;chance 1 1;";
    private static final String TREE = "places 3;lane 0 1 1;lane 0 2 1;chance 0 1;";

    private EdgesTapeTest() {
    }

    public static void main(String[] args) {
        newObject();
        noSuchTown();
        feedTells();
        feedFull();
        feedHighestFirst();
        endTells();
        endRefused();
        townFurther();
        townInPlace();
        townNone();
        townTakesTape();
        townFull();
        faultOfLatest();
        faultWhats();
        bytesBehind();
        bytesBetween();
        longRows();
        numbersOfText();
        placesOfText();
        leadingNoughts();
        lines();
        lanes();
        everyLane();
        endOfText();
        noChance();
        noWay();
        crowded();
        firstByPlace();
        Check.close("EdgesTapeTest");
    }

    // ---- promise 1 ----

    /** No TOWNS, WALKS; no SEARCH was run; no images. */
    private static void newObject() {
        for (Edges.OfTown c : Edges.CALLS) {
            HiddenBarrel x = new HiddenBarrel();
            for (int t : Edges.outside(0, -1)) {
                Check.due("new " + c.name + " of " + t, c.call.of(x, t), c.none);
            }
            Check.due("new " + c.name + " of 0", c.call.of(x, 0), c.none);
        }
        HiddenBarrel x = new HiddenBarrel();
        for (int what = -1; what <= 4; what++) {
            Check.due("new ran " + what, x.ran(what), -1);
        }
        for (int k = -1; k <= 3; k++) {
            Check.due("new again " + k, x.again(k), false);
        }
        Check.due("new count(0)", x.count(0), 0);
        Check.due("new count(1)", x.count(1), 0);
        Check.due("new fault(0)", x.fault(0), 0);
        Check.due("new fault(1)", x.fault(1), -1);
        Check.due("new tape", x.end(1), -1);
        Check.due("new feed", x.feed(0, 0, 0, 0, 0), 20);
    }

    /** Of each promise that asks of a TOWN: its answer if there is no such TOWN, with 1, 2, 3 of them. */
    private static void noSuchTown() {
        for (int towns = 1; towns <= 3; towns++) {
            for (Edges.OfTown c : Edges.CALLS) {
                Edges.refused(c.name + ", " + towns + " towns", Edges.towns(towns), c.none, c.call, Edges.outside(0, towns - 1));
                HiddenBarrel x = Edges.towns(towns);
                for (int t = 0; t < towns; t++) {
                    Check.due(c.name + " of " + t + " is told", c.call.of(x, t) != c.none, true);
                }
            }
        }
    }

    // ---- promise 2 ----

    /** How many it has: empty, ended, taken. */
    private static void feedTells() {
        HiddenBarrel x = new HiddenBarrel();
        for (int i = 1; i <= 25; i++) {
            Check.due("feed " + i, x.feed(Integer.MIN_VALUE, -1, Integer.MAX_VALUE, 0, 1 << 24), 20 * i);
        }
        x.end(1);
        Check.due("feed behind one", x.feed(0, 0, 0, 0, 0), 21);
        x.end(0);
        Check.due("feed behind none", x.feed(0, 0, 0, 0, 0), 20);
        x.town(-1);
        Check.due("feed behind a town", x.feed(0, 0, 0, 0, 0), 20);
        x.town(2);
        Check.due("feed behind none such", x.feed(0, 0, 0, 0, 0), 20);
    }

    /** NONE, and nothing comes, if there would be more than 500. */
    private static void feedFull() {
        for (int n = 470; n <= 500; n++) {
            HiddenBarrel x = new HiddenBarrel();
            Check.put(x, GOOD + " ".repeat(500 - GOOD.length()));
            Check.due("end " + n, x.end(n), n);
            boolean room = n <= 480;
            for (int i = 0; i < 2; i++) {
                int want = room && i == 0 ? n + 20 : -1;
                Check.due("feed behind " + n, x.feed(0x21212121, 0x21212121, 0x21212121, 0x21212121, 0x21212121), want);
            }
            int all = room ? n + 20 : n;
            Check.due("one more than there is", x.end(all + 1), -1);
            Check.due("all that there is", x.end(all), all);
            Check.due("text behind feed at " + n, x.town(-1), room ? -1 : 0);
            Check.due("what came behind " + n, x.fault(1), room ? n : -1);
        }
    }

    /** Twenty bytes, of each number the highest first: each of them, of each kind, at its place. */
    private static void feedHighestFirst() {
        int[] signs = {0, 1, 9, 31, 33, 127, 128, 160, 255};
        for (int sign : signs) {
            for (int place = 0; place < 20; place++) {
                HiddenBarrel x = new HiddenBarrel();
                Check.put(x, GOOD);
                int[] n = {0x20202020, 0x0a0a0a0a, 0x200a200a, 0x20202020, 0x0a20200a};
                int shift = 24 - 8 * (place % 4);
                n[place / 4] = n[place / 4] & ~(255 << shift) | sign << shift;
                x.feed(n[0], n[1], n[2], n[3], n[4]);
                x.town(-1);
                Check.due("byte " + sign + " as number " + place, x.fault(0), 1);
                Check.due("place of byte " + sign + " as number " + place, x.fault(1), GOOD.length() + place);
            }
        }
    }

    // ---- promise 3 ----

    /** The tape has its first n bytes alone: n. */
    private static void endTells() {
        HiddenBarrel x = new HiddenBarrel();
        Check.due("end 0 of none", x.end(0), 0);
        Check.put(x, GOOD + GOOD);
        for (int n = 62; n >= 31; n--) {
            Check.due("end " + n, x.end(n), n);
        }
        Check.due("the first bytes are left", x.town(-1), 0);
        Check.due("end 0 behind a town", x.end(0), 0);
        Check.put(x, GOOD);
        x.end(0);
        Check.put(x, "");
        x.feed(0x20202020, 0x20202020, 0x20202020, 0x20202020, 0x20202020);
        Check.due("what was cut is gone", x.town(-1), -1);
        Check.due("at the end of blanks", x.fault(1), 20);
    }

    /** NONE if it has not so many, or n is below 0. */
    private static void endRefused() {
        int[] lengths = {0, 20, 40, 480, 500};
        for (int length : lengths) {
            HiddenBarrel x = new HiddenBarrel();
            for (int i = 0; i < length; i += 20) {
                x.feed(0x20202020, 0x20202020, 0x20202020, 0x20202020, 0x20202020);
            }
            for (int n : Edges.outside(0, length)) {
                Check.due("end " + n + " of " + length, x.end(n), -1);
            }
            Check.due("end " + length + " behind those", x.end(length), length);
            x.town(-1);
            Check.due("still " + length, x.fault(1), length);
        }
    }

    // ---- promise 4 ----

    /** A further one (at NONE): its number; -2 if there are 3. */
    private static void townFurther() {
        HiddenBarrel x = new HiddenBarrel();
        int[] want = {0, 1, 2, -2, -2};
        for (int i = 0; i < want.length; i++) {
            Check.due("further " + i, Check.town(x, GOOD), want[i]);
            Check.due("towns behind " + i, x.count(0), Math.min(i + 1, 3));
        }
    }

    /** In the place of one (its WALKS and its DIARY are gone then): its number. */
    private static void townInPlace() {
        for (int at = 0; at < 3; at++) {
            HiddenBarrel x = Edges.towns(3);
            x.weigh(at, 0, 7);
            Check.due("in the place of " + at, Check.townAt(x, at, GOOD), at);
            Check.due("count", x.count(0), 3);
            for (int t = 0; t < 3; t++) {
                Check.due("places of " + t, x.about(t, 0), t == at ? 2 : 4);
                Check.due("walks of " + t, x.about(t, 6), t == at ? 0 : 1);
                Check.due("days of " + t, x.about(t, 7), t == at ? 0 : 1);
                Check.due("found in " + t, x.found(t, 0, 0), t == at ? -1 : 0);
                Check.due("lane of " + t, x.lane(t, 0, 1), t == at ? 5 : 3);
            }
            Check.due("dog as at first", x.about(at, 21), 12);
            Check.due("prize as at first", x.about(at, 4), 0);
            Check.due("move as at first", x.about(at, 5), 0);
            x.walk(at);
            Check.due("a new walk has no stops", x.found(at, 0, 1), -1);
            Check.due("a new walk weighs 1", x.where(at, 1), 999);
            Check.due("a new diary", x.diary(at, 1), 1);
        }
    }

    /** NONE: a FAULT. Then nothing comes, and what was there stays. */
    private static void townNone() {
        for (int towns = 0; towns <= 3; towns++) {
            for (int at = -1; at < towns; at++) {
                HiddenBarrel x = Edges.towns(towns);
                if (at == -1 && towns == 3) {
                    continue;
                }
                long[] before = Edges.told(x);
                Check.due("faulty at " + at, Check.townAt(x, at, "places 2;lane 0 1 21;chance 1 1;"), -1);
                Check.due("its fault", x.fault(0), 2);
                Check.due("its place", x.fault(1), 18);
                x.town(7);
                Edges.same("towns behind a fault at " + at, Edges.told(x), before);
            }
        }
    }

    /** The tape is taken, and is empty then, whatever is answered. */
    private static void townTakesTape() {
        String[] texts = {GOOD, "", "places", "places 9;", "places 2;chance 1 1;", " ".repeat(500)};
        int[] at = {-1, 0, 1, 3, -2, Integer.MIN_VALUE, Integer.MAX_VALUE};
        for (String text : texts) {
            for (int a : at) {
                HiddenBarrel x = Edges.towns(1);
                Check.townAt(x, a, text);
                Check.due("tape behind town(" + a + ")", x.end(1), -1);
                Check.due("tape's end behind town(" + a + ")", x.end(0), 0);
                Check.due("the empty tape's town", x.town(-1), -1);
                Check.due("the empty tape's fault", x.fault(0), 1);
                Check.due("the empty tape's place", x.fault(1), 0);
            }
        }
    }

    /** -2: there is none such, or there are 3 (no text is read, FAULT 0). */
    private static void townFull() {
        String[] texts = {GOOD, "", "places 9;", "places 2;chance 1 0;"};
        for (int towns = 0; towns <= 3; towns++) {
            HiddenBarrel x = Edges.towns(towns);
            for (String text : texts) {
                for (int at : Edges.outside(0, towns - 1)) {
                    boolean none = at != -1 || towns == 3;
                    if (none && x.count(0) == towns && at % 7 != 3) {
                        Check.put(x, text);
                        Check.due("town(" + at + ") of " + towns, x.town(at), -2);
                        Check.due("no fault of " + at, x.fault(0), 0);
                        Check.due("no place of " + at, x.fault(1), -1);
                    }
                }
                x = Edges.towns(towns);
            }
            Check.due("towns", x.count(0), towns);
        }
    }

    // ---- promise 5 ----

    /** Of the latest town(): 0 and NONE without a FAULT. */
    private static void faultOfLatest() {
        HiddenBarrel x = new HiddenBarrel();
        Check.town(x, "places 2;chance 1 1;");
        Check.due("a fault", x.fault(0), 5);
        Check.due("its place", x.fault(1), 20);
        x.feed(0, 0, 0, 0, 0);
        x.end(3);
        x.run(0, 1, 1);
        Check.due("until the next town()", x.fault(0), 5);
        Check.town(x, GOOD);
        Check.due("none", x.fault(0), 0);
        Check.due("no place", x.fault(1), -1);
        Check.townAt(x, 0, "places 2");
        Check.due("of one in the place of another", x.fault(0), 1);
        Check.due("its place", x.fault(1), 8);
        Check.townAt(x, 1, "places");
        Check.due("of none such", x.fault(0), 0);
        Check.due("no place of none such", x.fault(1), -1);
    }

    /** NONE for another what. */
    private static void faultWhats() {
        String[] texts = {GOOD, "", "places 1;", "places 2;lane 0 1 1;lane 0 1 1;", "places 2;"};
        int[] fault = {0, 1, 2, 3, 4};
        int[] place = {-1, 0, 7, 20, 9};
        for (int i = 0; i < texts.length; i++) {
            String text = texts[i];
            Edges.whats("fault of '" + text + "'", () -> {
                HiddenBarrel x = new HiddenBarrel();
                Check.town(x, text);
                return x;
            }, -1, (x, what) -> x.fault(what), fault[i], place[i]);
        }
    }

    // ---- term 1: bytes, tokens ----

    /** Blanks are 10 and 32 alone; behind a text no other byte goes on. */
    private static void bytesBehind() {
        for (int b = 0; b < 256; b++) {
            boolean blank = b == 10 || b == 32;
            Check.fault(GOOD + (char) b, blank ? 0 : 1, blank ? -1 : 31);
            Check.fault((char) b + GOOD, blank ? 0 : 1, blank ? -1 : 0);
        }
    }

    /** Tokens as long as they go: what another byte between two of them makes. */
    private static void bytesBetween() {
        for (int b = 0; b < 256; b++) {
            char c = (char) b;
            boolean blank = b == 10 || b == 32;
            boolean letter = b >= 'a' && b <= 'z';
            boolean digit = b >= '0' && b <= '9';
            int place = letter ? 0 : 6;
            Check.fault("places" + c + "2;lane 0 1 5;chance 1 1;", blank || b == '0' ? 0 : digit ? 2 : 1,
                    blank || b == '0' ? -1 : place);
            Check.fault("places 2" + c + ";lane 0 1 5;chance 1 1;", blank ? 0 : digit ? 2 : 1,
                    blank ? -1 : digit ? 7 : b == ';' ? 9 : 8);
            Check.fault("places 2;lane" + c + "0 1 5;chance 1 1;", blank || b == '0' ? 0 : digit ? 2 : 1,
                    blank || b == '0' ? -1 : letter ? 9 : 13);
        }
        Check.fault("places 2;lane 0 1 5chance 1 1;", 1, 19);
        Check.fault("places 2;lane 0 1 5;chance 1 1;dog1 3;", 0, -1);
        Check.fault("places2;lane0 1 5;chance1 1;", 0, -1);
        Check.fault("places 2;lane01 5;chance 1 1;", 1, 17);
        Check.fault("pl aces 2;", 1, 0);
        Check.fault("place 2;", 1, 0);
        Check.fault("placess 2;", 1, 0);
        otherWords();
        String[] words = {"lan", "lanes", "chanc", "chances", "do", "dogs", "di", "digs", "priz", "prizes", "mov", "moves",
            "places", "z", "a", "Lane", "lanE"};
        for (String word : words) {
            Check.fault("places 2;lane 0 1 5;" + word + " 1 1;", 1, 20);
        }
    }

    /** Each word with one of its letters another one. */
    private static void otherWords() {
        String[] words = {"places", "lane", "chance", "dog", "dig", "prize", "move"};
        for (String word : words) {
            String head = word.equals("places") ? "" : "places 2;lane 0 1 5;";
            String tail = word.equals("places") ? " 2;lane 0 1 5;chance 1 1;" : word.equals("lane") ? " 0 1 5;" : word.equals("prize")
                    || word.equals("move") ? " 1;" : " 1 1;";
            for (int i = 0; i < word.length(); i++) {
                for (char c = 'a'; c <= 'z'; c++) {
                    String other = word.substring(0, i) + c + word.substring(i + 1);
                    if (!other.equals(word) && !other.equals("dig") && !other.equals("dog")) {
                        Check.fault(head + other + tail, 1, head.length());
                    }
                }
            }
        }
    }

    /** NUMBERS, 1 to 4 digits; a longer row of digits is no token. */
    private static void longRows() {
        String[] heads = {"places ", "places 2;lane ", "places 2;lane 0 ", "places 2;lane 0 1 ", "places 2;chance ",
            "places 2;chance 0 ", "places 2;dog ", "places 2;dog 0 ", "places 2;dig ", "places 2;dig 0 ", "places 2;prize ",
            "places 2;move "};
        for (String head : heads) {
            for (int n = 5; n <= 12; n++) {
                Check.fault(head + "0".repeat(n) + " 1 1;", 1, head.length());
                Check.fault(head + "1".repeat(n), 1, head.length());
                Check.fault(head + "4294967297".repeat(2).substring(0, n) + ";", 1, head.length());
            }
        }
        Check.fault("places 2;lane 0 1 5;chance 1 1;12345", 1, 31);
        Check.fault("12345", 1, 0);
        Check.fault("9".repeat(500), 1, 0);
        Check.fault("places " + "2".repeat(493), 1, 7);
    }

    // ---- term 1: numbers ----

    private static final int[] TRIED = {0, 1, 2, 3, 4, 5, 6, 7, 8, 9, 10, 11, 12, 13, 14, 15, 16, 17, 18, 19, 20, 21, 22, 31, 32,
        33, 63, 64, 65, 98, 99, 100, 101, 127, 128, 129, 255, 256, 257, 258, 511, 512, 513, 998, 999, 1000, 1001, 1023, 1024,
        1025, 4095, 4096, 4097, 8191, 8192, 8193, 9998, 9999};

    /** The first and the last number that can be, and those beyond: FAULT 2 at the NUMBER; else it is told. */
    private static void number(String head, String tail, int first, int last, int what) {
        for (int n : TRIED) {
            String text = head + n + tail;
            boolean good = n >= first && n <= last;
            Check.fault(text, good ? 0 : 2, good ? -1 : head.length());
            if (good) {
                Check.due("about " + what + " of '" + text + "'", Check.with(text).about(0, what), n);
            }
        }
    }

    private static void numbersOfText() {
        String two = "places 2;lane 0 1 5;chance 0 1;";
        number(two + "chance 1 ", ";", 0, 99, 11);
        number(two + "dog 1 ", ";", 1, 12, 21);
        number(two + "dig 0 ", ";", 1, 99, 30);
        number(two + "prize ", ";", 0, 999, 4);
        number(two + "move ", ";", 0, 12, 5);
        for (int n : TRIED) {
            boolean good = n >= 1 && n <= 20;
            String text = "places 2;chance 0 1;lane 0 1 " + n + ";";
            Check.fault(text, good ? 0 : 2, good ? -1 : 29);
            if (good) {
                Check.due("minutes of '" + text + "'", Check.with(text).lane(0, 1, 0), n);
            }
        }
        for (int n : TRIED) {
            String text = "places " + n + ";lane 0 1 1;chance 0 1;";
            boolean good = n >= 2 && n <= 8;
            Check.fault(text, n == 2 ? 0 : good ? 5 : 2, n == 2 ? -1 : good ? text.length() : 7);
        }
    }

    /** A PLACE that the text has not; the second PLACE of a lane if it is the first one. */
    private static void placesOfText() {
        for (int places = 2; places <= 8; places++) {
            StringBuilder s = new StringBuilder("places " + places + ";chance 0 1;");
            for (int a = 1; a < places - 1; a++) {
                s.append("lane 0 ").append(a).append(" 1;");
            }
            String part = s.toString();
            String whole = part + "lane 0 " + (places - 1) + " 1;";
            for (int n : TRIED) {
                boolean good = n < places;
                String[] words = {"chance ", "dog ", "dig "};
                for (String word : words) {
                    Check.fault(whole + word + n + " 1;", good ? 0 : 2, good ? -1 : whole.length() + word.length());
                }
                int last = places - 1;
                boolean first = n < last;
                Check.fault(part + "lane " + n + " " + last + " 1;", first ? 0 : 2,
                        first ? -1 : part.length() + (n == last ? 7 : 5));
                Check.fault(part + "lane " + last + " " + n + " 1;", first ? 0 : 2, first ? -1 : part.length() + 7);
            }
        }
    }

    private static void leadingNoughts() {
        Check.fault("places 0002;lane 0000 0001 0020;chance 0000 0099;dog 0001 0012;dig 01 099;prize 0999;move 0012;", 0, -1);
        Check.fault("places 02;lane 00 01 020;chance 000 0;chance 1 01;", 0, -1);
        Check.fault("places 2;lane 0 1 0021;chance 0 1;", 2, 18);
        Check.fault("places 2;lane 0 1 0000;chance 0 1;", 2, 18);
        Check.fault("places 0009;", 2, 7);
        Check.fault("places 0001;", 2, 7);
    }

    // ---- term 1: one too many ----

    /** A 41st LINE, at its first token, whatever it says; 'places' is no LINE. */
    private static void lines() {
        String[] last = {"move 0;", "prize 9;", "dog 9 99;", "lane 0 1 5;", "lane 0 2 9;", "chance 0 1;"};
        String head = "places 2;chance 1 1;lane 0 1 5;";
        for (int more = 36; more <= 41; more++) {
            String text = head + "move 1;".repeat(Math.min(more, 38));
            for (String line : last) {
                if (more >= 38) {
                    Check.fault(text + " \n" + line.repeat(more - 37), 3, text.length() + 2);
                }
            }
            Check.fault(text, 0, -1);
        }
        Check.fault("places 2;" + "lane 0 1 5;chance 1 1;" + "dig 1 9;".repeat(38) + "dig 1 9;", 3, 31 + 38 * 8);
        Check.fault("places 2;" + "move 0;".repeat(40), 4, 9 + 40 * 7);
        Check.fault("places 2;" + "move 0;".repeat(41), 3, 9 + 40 * 7);
        Check.fault("places 2;" + "move 0;".repeat(70), 3, 9 + 40 * 7);
    }

    private static String lane(int i) {
        int n = 0;
        for (int a = 0; a < 8; a++) {
            for (int b = a + 1; b < 8; b++) {
                if (n == i) {
                    return "lane " + b + " " + a + " 7;";
                }
                n++;
            }
        }
        return "";
    }

    /** A 21st lane, a lane between two that have one, at its first token. */
    private static void lanes() {
        StringBuilder s = new StringBuilder("places 8;chance 0 1;");
        for (int i = 0; i < 20; i++) {
            s.append(lane(i));
            if (i >= 6) {
                Check.fault(s.toString(), 0, -1);
                Check.due("lanes", Check.with(s.toString()).about(0, 1), i + 1);
            }
        }
        String full = s.toString();
        String[] more = {lane(20), lane(0), "lane 7 7 7;", "lane 8 0 1;", "lane 0 8 1;", "lane 6 7 0;", "lane 6 7 21;"};
        for (String line : more) {
            Check.fault(full + line, 3, full.length());
            Check.fault(full + "prize 1;\n" + line, 3, full.length() + 9);
        }
        Check.fault(full + "dog 8 1;" + lane(20), 2, full.length() + 4);
    }

    private static int third(int a, int b) {
        int c = 0;
        while (c == a || c == b) {
            c++;
        }
        return c;
    }

    /** Lanes don't strike: each of two PLACES, either way. */
    private static void everyLane() {
        for (int a = 0; a < 8; a++) {
            for (int b = 0; b < 8; b++) {
                if (a != b) {
                    String text = "places 8;lane " + a + " " + b + " 3;";
                    Check.fault(text + "lane " + a + " " + b + " 4;", 3, text.length());
                    Check.fault(text + "lane " + b + " " + a + " 4;", 3, text.length());
                    Check.fault(text + "lane " + b + " " + a + " 99;", 3, text.length());
                    int c = third(a, b);
                    Check.fault(text + "lane " + a + " " + c + " 4;", 4, text.length() + 11);
                }
            }
        }
    }

    // ---- term 1: at the end's place ----

    /** The end's place is behind blanks, too; where a text ends too soon. */
    private static void endOfText() {
        for (int n = 0; n < 31; n++) {
            String head = GOOD.substring(0, n);
            boolean whole = n == 9 || n == 20;
            int word = head.lastIndexOf(' ') + 1;
            int line = head.lastIndexOf(';') + 1;
            int start = Math.max(word, line);
            boolean cut = n > start && Character.isLetter(GOOD.charAt(start)) && Character.isLetter(GOOD.charAt(n));
            int place = cut ? start : n;
            Check.fault(head, whole ? 4 : 1, place);
            Check.fault(head + "\n \n", whole ? 4 : 1, cut ? start : n + 3);
        }
        int most = 500 - GOOD.length();
        Check.fault(GOOD + " ".repeat(most), 0, -1);
        Check.fault("places 2;" + " ".repeat(491), 4, 500);
        Check.fault("places 2" + "\n".repeat(492), 1, 500);
        Check.fault(" ".repeat(most) + GOOD, 0, -1);
        Check.fault(" ".repeat(most + 1) + GOOD.substring(0, 30), 1, 500);
    }

    /** 4: there is no CHANCE. */
    private static void noChance() {
        Check.fault("places 2;lane 0 1 5;", 4, 20);
        Check.fault("places 2;lane 0 1 5;chance 0 0;chance 1 0;", 4, 42);
        Check.fault("places 2;lane 0 1 5;chance 0 9;chance 1 9;chance 0 0;chance 1 0;", 4, 64);
        Check.fault("places 2;lane 0 1 5;chance 0 9;chance 1 9;chance 0 0;chance 1 1;", 0, -1);
        Check.fault("places 3;move 12;", 4, 17);
        Check.fault("places 3;lane 0 1 5;lane 0 2 5;move 12;", 4, 39);
    }

    /** 5: some PLACE has no WAY from PLACE 0; before 6. */
    private static void noWay() {
        for (int places = 2; places <= 8; places++) {
            for (int alone = 1; alone < places; alone++) {
                StringBuilder s = new StringBuilder("places " + places + ";chance 0 1;move " + (places > 3 ? 12 : 0) + ";");
                for (int a = 1; a < places; a++) {
                    if (a != alone) {
                        s.append("lane 0 ").append(a).append(" 1;");
                    }
                }
                Check.fault(s.toString(), 5, s.length());
            }
        }
        Check.fault("places 8;chance 7 1;lane 4 5 1;lane 5 6 1;lane 6 7 1;lane 7 4 1;lane 0 1 1;lane 1 2 1;lane 2 3 1;", 5, 97);
        Check.fault("places 8;chance 7 1;lane 4 5 1;lane 5 6 1;lane 6 7 1;lane 3 4 1;lane 0 1 1;lane 1 2 1;lane 2 3 1;", 0, -1);
    }

    /** 6: some PLACE has more LANES than 12 / MOVE (if MOVE is not 0). */
    private static void crowded() {
        for (int places = 2; places <= 8; places++) {
            for (int middle = 0; middle < places; middle += places - 1) {
                for (int move = 0; move <= 12; move++) {
                    StringBuilder s = new StringBuilder("places " + places + ";chance 0 1;move " + move + ";");
                    for (int a = 0; a < places; a++) {
                        if (a != middle) {
                            s.append("lane ").append(a).append(' ').append(middle).append(" 2;");
                        }
                    }
                    boolean good = move == 0 || places - 1 <= 12 / move;
                    Check.fault(s.toString(), good ? 0 : 6, good ? -1 : s.length());
                    Check.fault("places 2;move 12;move " + move + ";lane 0 1 1;chance 1 9;", 0, -1);
                }
            }
        }
    }

    /** 1 before all; then the first by place; 4, 5, 6 if there is none of these. */
    private static void firstByPlace() {
        Check.fault("places 1;lane 0 1 0;%", 1, 20);
        Check.fault("places 1;lane 0 1 0;", 2, 7);
        Check.fault("places 2;lane 0 1 5;lane 0 1 5;dog 2 1", 1, 38);
        Check.fault("places 2;lane 0 1 5;lane 0 1 5;dog 2 1;", 3, 20);
        Check.fault("places 2;lane 0 1 5;dog 2 1;lane 0 1 5;", 2, 24);
        Check.fault("places 2;lane 2 2 0;", 2, 14);
        Check.fault("places 2;lane 1 1 0;", 2, 16);
        Check.fault("places 2;lane 1 2 0;", 2, 16);
        Check.fault("places 2;chance 2 100;", 2, 16);
        Check.fault("places 2;dog 2 0;", 2, 13);
        Check.fault("places 2;dig 2 0;", 2, 13);
        Check.fault("places 3;prize 1000;chance 0 0;move 12;lane 0 1 1;", 2, 15);
        Check.fault("places 3;chance 0 0;move 12;lane 0 1 1;", 4, 39);
        Check.fault("places 3;chance 0 1;move 12;lane 0 1 1;", 5, 39);
        Check.fault("places 3;chance 0 1;move 12;lane 0 1 1;lane 0 2 1;", 6, 50);
        Check.fault(TREE, 0, -1);
    }
}
