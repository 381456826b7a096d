import java.util.ArrayList;
import java.util.HashSet;
import java.util.List;
import java.util.Random;
import java.util.Set;
import java.util.regex.Matcher;
import java.util.regex.Pattern;

/**
 * Promises 4 and 5 on drawn texts, many of them spoilt: the FAULT and its place as patterns of the
 * document's grammar have them, and what good texts tell.
 */
public final class RandomTextTest {
    private static final Random RANDOM = new Random(36);
    private static final int MANY = 3;

    /** A line's word, and for its numbers the lowest and the highest, two and two. */
    private static final Object[][][] LINES = {
        {{"room", 1, 9, 0, 9}, {"lady", 0, 3, 0, 30, 0, 60, 0, 90, 0, 40}, {"proper", 0, 40, 0, 30}, {"slack", 0, 9},
            {"rest", 1, 9}, {"glass", 0, 40}, {"wind", 0, 9, 0, 9, 0, 9}},
        {{"glass", 0, 40}, {"open", 0, 3}, {"shut", 0, 3}, {"sigh", 0, 7}, {"tie", 0, 7, 1, 9},
            {"loosen", 0, 7, 1, 9}, {"go", 0, 7, 0, 3}, {"toast"}, {"minute"}},
        {{"mark", 0, 40}},
        {{"fell", 0, 7, 1, 16}, {"stood", 0, 7, 1, 16}, {"shot", 0, 7, 0, 60}},
        {{"owes", 0, 7, 0, 7, 1, 99}},
        {{"maid", 0, 30, 0, 30}},
    };

    private static final String[] GRAMMAR = {
        "((room # #|lady # # # # #|proper # #|(slack|rest|glass) #|wind # # #) ;)*",
        "(((glass|open|shut|sigh) #|(tie|loosen|go) # #|toast|minute) ;)*",
        "(mark #( #)* ;)*",
        "(((fell|stood) # #|shot # # (fell|stood)) ;)*",
        "(owes # # # ;)*",
        "(maid # # ;)*",
    };

    /** Tokens of a text with their places; a bad byte or row of digits is "?". */
    private static final List<String> TOKENS = new ArrayList<>();
    private static final List<Integer> PLACES = new ArrayList<>();

    public static void main(String[] args) {
        int[] faults = new int[5];
        for (int round = 0; round < 30000; round++) {
            int sort = RANDOM.nextInt(6);
            String text = drawText(sort);
            int[] due = faultOf(sort, text);
            faults[due[0]]++;
            Check.dueFault(sort, text, due[0], due[1]);
            if (due[0] == 0) {
                dueTold(sort, text);
            }
        }
        for (int fault = 0; fault < 5; fault++) {
            Check.due("FAULT " + fault + " was tried often", faults[fault] > 200, true);
        }
        Check.finish();
    }

    private static String drawText(int sort) {
        StringBuilder text = new StringBuilder();
        int lines = RANDOM.nextInt(4) == 0 ? RANDOM.nextInt(45) : RANDOM.nextInt(8);
        int wrong = RANDOM.nextInt(3) == 0 ? 12 : 1000000;
        for (int k = 0; k < lines && text.length() < 520; k++) {
            drawLine(sort, text, wrong);
        }
        if (RANDOM.nextInt(3) == 0) {
            for (int times = RANDOM.nextInt(MANY); times >= 0; times--) {
                spoil(text);
            }
        }
        text.setLength(Math.min(text.length(), 600));
        return text.toString();
    }

    private static void drawLine(int sort, StringBuilder text, int wrong) {
        Object[] line = LINES[sort][RANDOM.nextInt(LINES[sort].length)];
        text.append(line[0]);
        int rounds = sort == 2 ? 1 + RANDOM.nextInt(6) : 1;
        for (int round = 0; round < rounds; round++) {
            for (int k = 1; k + 1 < line.length; k += 2) {
                int low = (Integer) line[k];
                int high = (Integer) line[k + 1];
                int number = low + RANDOM.nextInt(high - low + 1);
                if (RANDOM.nextInt(wrong) == 0) {
                    number = RANDOM.nextBoolean() ? Math.max(0, low - 1) : Math.min(99, high + 1);
                }
                text.append(RANDOM.nextInt(8) == 0 ? '\n' : ' ').append(number);
            }
        }
        if (line[0].equals("shot")) {
            text.append(RANDOM.nextBoolean() ? " fell" : " stood");
        }
        text.append(RANDOM.nextInt(8) == 0 ? " ; " : ";");
    }

    private static void spoil(StringBuilder text) {
        String signs = "0123456789;; \nabglmrstowynde?A" + (char) 0 + (char) 9 + (char) 200;
        int at = RANDOM.nextInt(text.length() + 1);
        char sign = signs.charAt(RANDOM.nextInt(signs.length()));
        switch (RANDOM.nextInt(4)) {
            case 0:
                text.insert(at, sign);
                break;
            case 1:
                text.setLength(at);
                break;
            case 2:
                if (at < text.length()) {
                    text.deleteCharAt(at);
                }
                break;
            default:
                if (at < text.length()) {
                    text.setCharAt(at, sign);
                }
                break;
        }
    }

    private static void split(String text) {
        TOKENS.clear();
        PLACES.clear();
        Matcher m = Pattern.compile("[a-z]+|[0-9]+|;|[^ \n]").matcher(text);
        while (m.find()) {
            String token = m.group();
            TOKENS.add(token.matches("[0-9]{3,}") || !token.matches("[a-z0-9;]+") ? "?" : token);
            PLACES.add(m.start());
        }
    }

    private static int[] faultOf(int sort, String text) {
        split(text);
        Pattern grammar = Pattern.compile("^" + GRAMMAR[sort].replace(";", "; ") + "$");
        StringBuilder all = new StringBuilder();
        for (int k = 0; k < TOKENS.size(); k++) {
            all.append(TOKENS.get(k).matches("[0-9]+") ? "#" : TOKENS.get(k)).append(' ');
            Matcher m = grammar.matcher(all);
            if (!m.matches() && !m.hitEnd()) {
                return new int[] {1, PLACES.get(k)};
            }
        }
        if (!grammar.matcher(all).matches()) {
            return new int[] {1, text.length()};
        }
        int[] best = {9, Integer.MAX_VALUE};
        findNumbers(sort, best);
        findTooMany(sort, best);
        if (best[0] == 9 && sort == 0 && isWrongAsAWhole()) {
            return new int[] {4, text.length()};
        }
        return best[0] == 9 ? new int[] {0, -1} : best;
    }

    private static void note(int[] best, int fault, int place) {
        if (place < best[1] || place == best[1] && fault < best[0]) {
            best[0] = fault;
            best[1] = place;
        }
    }

    private static void findNumbers(int sort, int[] best) {
        Set<Integer> told = new HashSet<>();
        String word = "";
        List<Integer> before = new ArrayList<>();
        for (int k = 0; k < TOKENS.size(); k++) {
            if (!TOKENS.get(k).matches("[0-9]+")) {
                word = TOKENS.get(k);
                before.clear();
                continue;
            }
            int number = Integer.parseInt(TOKENS.get(k));
            Object[] line = null;
            for (Object[] one : LINES[sort]) {
                line = one[0].equals(word) ? one : line;
            }
            int at = sort == 2 ? 1 : 1 + 2 * before.size();
            boolean bad = number < (Integer) line[at] || number > (Integer) line[at + 1];
            bad |= word.equals("maid") && before.size() == 1 && number < before.get(0);
            bad |= word.equals("owes") && before.size() == 1 && number == before.get(0);
            bad |= word.equals("proper") && before.isEmpty() && !told.add(number);
            if (bad) {
                note(best, 2, PLACES.get(k));
            }
            before.add(number);
        }
    }

    private static void findTooMany(int sort, int[] best) {
        int[] left = {4, 8, 6, 40, 16, 20, 20, 30, 10};
        for (int k = 0; k < TOKENS.size(); k++) {
            String token = TOKENS.get(k);
            boolean opens = k == 0 || TOKENS.get(k - 1).equals(";");
            int what = -1;
            if (sort == 2) {
                what = token.matches("[0-9]+") ? 4 : -1;
            } else if (opens && sort == 0) {
                what = List.of("room", "lady", "proper").indexOf(token);
            } else if (opens && sort == 3) {
                what = token.equals("shot") ? 6 : 5;
            } else if (opens) {
                what = sort == 1 ? 3 : sort + 3;
            }
            if (what >= 0 && --left[what] < 0) {
                note(best, 3, PLACES.get(k));
            }
        }
    }

    private static boolean isWrongAsAWhole() {
        int rooms = 0;
        int most = -1;
        boolean still = false;
        for (int k = 0; k < TOKENS.size(); k++) {
            if (TOKENS.get(k).equals("room")) {
                rooms++;
            } else if (TOKENS.get(k).equals("lady")) {
                most = Math.max(most, Integer.parseInt(TOKENS.get(k + 1)));
            } else if (TOKENS.get(k).equals("wind")) {
                still = (TOKENS.get(k + 1) + TOKENS.get(k + 2) + TOKENS.get(k + 3)).matches("0+");
            }
        }
        return most >= rooms || still;
    }

    /** Each line of a good text stands in its order. */
    private static void dueTold(int sort, String text) {
        GlassLaces x = Check.told(sort, text);
        List<String> words = new ArrayList<>();
        List<List<Integer>> lines = new ArrayList<>();
        for (int k = 0; k < TOKENS.size(); k++) {
            String token = TOKENS.get(k);
            if (k == 0 || TOKENS.get(k - 1).equals(";")) {
                words.add(token);
                lines.add(new ArrayList<>());
            } else if (token.matches("[0-9]+")) {
                lines.get(lines.size() - 1).add(Integer.parseInt(token));
            } else if (!token.equals(";")) {
                words.set(words.size() - 1, "shot " + token);
            }
        }
        int[] at = new int[3];
        for (int k = 0; k < words.size(); k++) {
            dueLine(x, sort, k, words.get(k), lines.get(k), at, !words.subList(k + 1, words.size()).contains(words.get(k)));
        }
    }

    private static void dueLine(GlassLaces x, int sort, int k, String word, List<Integer> line, int[] at, boolean last) {
        if (sort == 2) {
            for (int mark : line) {
                Check.due("mark " + at[0], x.mark(0, at[0]++), mark);
            }
            Check.due("marks", !last || x.mark(0, -1) == at[0], true);
            return;
        }
        for (int n = 0; n < line.size(); n++) {
            int due = line.get(n);
            if (sort == 0 && word.equals("room")) {
                Check.due("room", x.court(0, 10 + 10 * n + at[0]), due);
            } else if (sort == 0 && word.equals("lady")) {
                Check.due("lady", x.lady(0, at[1], n), due);
            } else if (sort == 0 && word.equals("proper")) {
                Check.due("proper", x.court(0, 30 + 10 * n + at[2]), due);
            } else if (sort == 0 && last) {
                Check.due(word, x.court(0, 3 + List.of("slack", "rest", "glass", "wind").indexOf(word) + n), due);
            } else if (sort == 1) {
                Check.due("deed", x.deed(0, k, 1 + n), due);
            } else if (sort == 3) {
                boolean shot = word.startsWith("shot");
                Check.due(word, x.sight(0, (shot ? 400 : 100) + 10 * at[shot ? 1 : 0] + n), due);
            } else if (sort == 4) {
                Check.due("pawn", x.pawn(0, k, n), due);
            } else if (sort == 5) {
                Check.due("maid", x.maid(0, k, n), due);
            }
        }
        if (sort == 0) {
            int what = List.of("room", "lady", "proper").indexOf(word);
            if (what >= 0) {
                at[what]++;
                Check.due("how many", !last || x.court(0, what) == at[what], true);
            }
        } else if (sort == 1) {
            List<String> words = List.of("glass", "open", "shut", "sigh", "tie", "loosen", "go", "toast", "minute");
            Check.due("deed", x.deed(0, k, 0), words.indexOf(word));
            Check.due("its numbers", x.deed(0, k, 2) >= 0, line.size() == 2);
        } else if (sort == 3) {
            boolean shot = word.startsWith("shot");
            Check.due(word, x.sight(0, (shot ? 402 : 102) + 10 * at[shot ? 1 : 0]++), word.endsWith("fell") ? 1 : 0);
        }
    }
}
