/** What the tests share: counting wrong answers, and telling a text to the tape. */
final class Check {
    static final int COURT = 0;
    static final int BALL = 1;
    static final int FORECAST = 2;
    static final int SIGHT = 3;
    static final int LEDGER = 4;
    static final int SHIFTS = 5;
    static final int NONE = GlassLaces.NONE;

    private static int wrong = 0;

    private Check() {
    }

    static void due(String call, long got, long want) {
        if (got != want) {
            wrong++;
            if (wrong <= 40) {
                System.out.println(call + " answered " + got + ", due is " + want);
            }
        }
    }

    static void due(String call, boolean got, boolean want) {
        due(call, got ? 1 : 0, want ? 1 : 0);
    }

    /** The answers of a row of calls, joined by blanks. */
    static void dueRow(String call, String got, String want) {
        if (!got.trim().equals(want)) {
            wrong++;
            if (wrong <= 40) {
                System.out.println(call + " answered " + got.trim() + ", due is " + want);
            }
        }
    }

    /** Puts the text on the empty tape, byte by byte (signs 0 to 255). */
    static void feed(GlassLaces x, String text) {
        x.end(0);
        int[] numbers = new int[5];
        for (int from = 0; from < text.length(); from += 20) {
            for (int k = 0; k < 5; k++) {
                numbers[k] = 0;
                for (int b = 0; b < 4; b++) {
                    int at = from + 4 * k + b;
                    numbers[k] = numbers[k] << 8 | (at < text.length() ? text.charAt(at) & 255 : 32);
                }
            }
            x.feed(numbers[0], numbers[1], numbers[2], numbers[3], numbers[4]);
        }
        due("end(" + text.length() + ")", x.end(text.length()), text.length());
    }

    /** Reads a text as a further one of its sort. */
    static int read(GlassLaces x, int sort, String text) {
        feed(x, text);
        return x.text(sort, NONE);
    }

    /** A new object to which these texts were told: sort, text, sort, text .. */
    static GlassLaces told(Object... texts) {
        GlassLaces x = new GlassLaces();
        for (int k = 0; k + 1 < texts.length; k += 2) {
            String text = (String) texts[k + 1];
            due("text of \"" + text + "\"", read(x, (Integer) texts[k], text) >= 0, true);
        }
        return x;
    }

    /** The text has this FAULT at this place (0 and NONE: none). */
    static void dueFault(int sort, String text, int fault, int place) {
        GlassLaces x = new GlassLaces();
        int number = read(x, sort, text);
        due("text of \"" + text + "\"", number, fault == 0 ? 0 : NONE);
        due("fault(0) of \"" + text + "\"", x.fault(0), fault);
        due("fault(1) of \"" + text + "\"", x.fault(1), place);
        due("count of \"" + text + "\"", x.count(sort), fault == 0 ? 1 : 0);
        due("tape behind \"" + text + "\"", x.end(1), NONE);
    }

    static String times(int n, String line) {
        StringBuilder all = new StringBuilder();
        for (int k = 0; k < n; k++) {
            all.append(line);
        }
        return all.toString();
    }

    static void finish() {
        System.out.println(wrong == 0 ? "all answers are as due" : wrong + " answers are not as due");
        if (wrong != 0) {
            System.exit(1);
        }
    }
}
