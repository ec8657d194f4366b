import java.util.ArrayList;
import java.util.List;
import java.util.regex.Matcher;
import java.util.regex.Pattern;

/** What term 1 says of texts: the town of one, or its fault and the place of that. */
final class SlowText {
    private static final Pattern TOKEN = Pattern.compile("[ \n]*(?:([a-z]+)|([0-9]+)|(;))?", Pattern.DOTALL);

    int fault;
    int place = -1;
    Slow town = new Slow();

    private final List<String> tokens = new ArrayList<>();
    private final List<Integer> starts = new ArrayList<>();

    SlowText(String text) {
        int at = 0;
        Matcher m = TOKEN.matcher(text);
        while (at < text.length()) {
            m.region(at, text.length());
            m.lookingAt();
            String word = m.group(1) != null ? m.group(1) : m.group(2) != null ? m.group(2) : m.group(3);
            if (word == null && m.end() < text.length()) {
                word = "?" + text.charAt(m.end());
                at = m.end() + 1;
                tokens.add(word);
                starts.add(m.end());
            } else if (word != null) {
                tokens.add(word);
                starts.add(m.end() - word.length());
                at = m.end();
            } else {
                at = m.end();
            }
        }
        tokens.add("");
        starts.add(text.length());
        int bad = firstBad();
        if (bad >= 0) {
            fault = 1;
            place = starts.get(bad);
        } else if (!lines()) {
            finish(text.length());
        }
    }

    private static String shape(String word) {
        switch (word) {
            case "lane":
                return "NNN;";
            case "chance":
            case "dog":
            case "dig":
                return "NN;";
            case "places":
            case "prize":
            case "move":
                return "N;";
            default:
                return null;
        }
    }

    private int firstBad() {
        int i = 0;
        while (true) {
            String word = tokens.get(i);
            if (i > 0 && word.equals("")) {
                return -1;
            }
            String shape = shape(word);
            if (shape == null || (i == 0) != word.equals("places")) {
                return i;
            }
            for (int j = 0; j < shape.length(); j++) {
                i++;
                String t = tokens.get(i);
                boolean fits = shape.charAt(j) == 'N' ? t.matches("[0-9]{1,4}") : t.equals(";");
                if (!fits) {
                    return i;
                }
            }
            i++;
        }
    }

    private boolean strike(int kind, int token) {
        fault = kind;
        place = starts.get(token);
        return true;
    }

    private int number(int token) {
        return Integer.parseInt(tokens.get(token));
    }

    /** Whether there is a fault of a line: of all that a line has, that which is first by place. */
    private boolean lines() {
        if (number(1) < 2 || number(1) > 8) {
            return strike(2, 1);
        }
        town.places = number(1);
        int count = 0;
        int i = 3;
        while (!tokens.get(i).equals("")) {
            count++;
            if (count == 41) {
                return strike(3, i);
            }
            String word = tokens.get(i);
            if (word.equals("lane") ? lane(i) : other(i, word)) {
                return true;
            }
            i += shape(word).length() + 1;
        }
        return false;
    }

    private boolean lane(int i) {
        int a = number(i + 1);
        int b = number(i + 2);
        int m = number(i + 3);
        if (town.lanes() == 20) {
            return strike(3, i);
        }
        if (a < 8 && b < 8 && town.lane[a][b] != 0) {
            return strike(3, i);
        }
        if (a >= town.places) {
            return strike(2, i + 1);
        }
        if (b >= town.places || b == a) {
            return strike(2, i + 2);
        }
        if (m < 1 || m > 20) {
            return strike(2, i + 3);
        }
        town.lane[a][b] = m;
        town.lane[b][a] = m;
        return false;
    }

    private boolean other(int i, String word) {
        if (word.equals("prize")) {
            town.prize = number(i + 1);
            return number(i + 1) > 999 && strike(2, i + 1);
        }
        if (word.equals("move")) {
            town.move = number(i + 1);
            return number(i + 1) > 12 && strike(2, i + 1);
        }
        if (number(i + 1) >= town.places) {
            return strike(2, i + 1);
        }
        int n = number(i + 2);
        if (word.equals("chance")) {
            town.chance[number(i + 1)] = n;
            return n > 99 && strike(2, i + 2);
        }
        if (word.equals("dog")) {
            town.dog[number(i + 1)] = n;
            return (n < 1 || n > 12) && strike(2, i + 2);
        }
        town.dig[number(i + 1)] = n;
        return (n < 1 || n > 99) && strike(2, i + 2);
    }

    private void finish(int end) {
        if (town.all() == 0) {
            fault = 4;
        } else {
            for (int a = 0; a < town.places; a++) {
                if (town.way(0, a) > 1000) {
                    fault = 5;
                }
            }
            for (int a = 0; a < town.places && fault == 0; a++) {
                if (town.move != 0 && town.degree(a) > 12 / town.move) {
                    fault = 6;
                }
            }
        }
        place = fault == 0 ? -1 : end;
    }
}
