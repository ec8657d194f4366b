/** Towns and texts made by a number that is drawn, the same ones at each run. */
final class Towns {
    private long x;

    Towns(long seed) {
        x = seed;
    }

    int below(int n) {
        x = x * 6364136223846793005L + 1442695040888963407L;
        return (int) ((x >>> 33) % n);
    }

    /** A town whose text has room on the tape; away: so many cellars but place 0 at most. */
    Slow town(int leastPlaces, int mostPlaces, int away) {
        while (true) {
            Slow t = new Slow();
            t.places = leastPlaces + below(mostPlaces - leastPlaces + 1);
            int longest = below(3) == 0 ? 2 : 20;
            int shape = below(4);
            for (int b = 1; b < t.places; b++) {
                int a = shape == 0 ? 0 : shape == 1 ? b - 1 : below(b);
                t.lane[a][b] = t.lane[b][a] = 1 + below(longest);
            }
            for (int more = below(3) == 0 ? 0 : below(16); more > 0 && t.lanes() < 20; more--) {
                int a = below(t.places);
                int b = below(t.places);
                if (a != b) {
                    t.lane[a][b] = t.lane[b][a] = 1 + below(longest);
                }
            }
            int great = below(3) == 0 ? 2 : 99;
            for (int i = 0; i < away; i++) {
                t.chance[1 + below(t.places - 1)] = 1 + below(great);
            }
            if (below(3) == 0) {
                t.chance[0] = below(great + 1);
            }
            int hard = below(4);
            for (int i = 0; i < hard * 3; i++) {
                t.dog[below(t.places)] = 1 + below(12);
                t.dig[below(t.places)] = 1 + below(below(2) == 0 ? 3 : 99);
            }
            t.prize = below(3) == 0 ? 0 : below(below(2) == 0 ? 30 : 1000);
            int most = 0;
            for (int a = 0; a < t.places; a++) {
                most = Math.max(most, t.degree(a));
            }
            t.move = below(12 / most + 1);
            String text = t.text();
            if (t.all() > 0 && text.length() <= 500 && text.chars().filter(c -> c == ';').count() <= 41) {
                return t;
            }
        }
    }

    private static final String[] WORDS = {"lane", "chance", "dog", "dig", "prize", "move", "places", "lan", "dogs"};
    private static final String[] SIGNS = {"", " ", "\n", "  ", ":", "A", "\u0000", "\u00e9", "\t", ";", "0", "00012", "123456", "x"};

    private String number() {
        int[] great = {3, 8, 10, 13, 21, 100, 1001, 10000};
        String n = "" + below(great[below(great.length)]);
        return below(12) == 0 ? "000".substring(below(3)) + n : n;
    }

    /** A row of lines of which most are right, and some signs of it struck or put in. */
    String text() {
        StringBuilder s = new StringBuilder("places ").append(below(12) == 0 ? number() : "" + (2 + below(7))).append(';');
        int lines = below(8) == 0 ? 38 + below(6) : below(9);
        for (int i = 0; i < lines; i++) {
            String word = WORDS[below(below(20) == 0 ? WORDS.length : 6)];
            if (lines > 30 && below(3) != 0) {
                word = below(2) == 0 ? "dog" : "dig";
            }
            s.append(word);
            int numbers = word.equals("lane") ? 3 : word.equals("prize") || word.equals("move") ? 1 : 2;
            for (int j = 0; j < numbers; j++) {
                s.append(below(15) == 0 ? "\n" : " ");
                s.append(j == numbers - 1 && below(5) == 0 ? number() : "" + below(lines > 30 ? 2 : 4));
            }
            s.append(';');
        }
        for (int i = below(3) == 0 ? 1 + below(2) : 0; i > 0 && s.length() > 0; i--) {
            int at = below(s.length());
            if (below(2) == 0) {
                s.deleteCharAt(at);
            } else {
                s.insert(at, SIGNS[below(SIGNS.length)]);
            }
        }
        if (below(10) == 0) {
            s.setLength(below(s.length() + 1));
        }
        if (s.length() > 500) {
            s.setLength(500);
        }
        return s.toString();
    }
}
