/**
 * Terms 1 and promises 2 to 5 at their edges: each NUMBER of each line from 0 to 99, one list too
 * long, the full and the empty tape, each byte as a blank, each text cut short.
 */
public final class TextEdgesTest {
    private static final String ROOMS = "room 1 0;room 1 0;room 1 0;room 1 0;";

    /** A line: what must stand ahead of it, its words, numbers that can be, their bounds two and two. */
    private record Line(int sort, String ahead, String word, String behind, int[] usual, int... bounds) {
    }

    private static final Line[] LINES = {
        new Line(Check.COURT, ROOMS, "lady", "", new int[] {1, 2, 3, 4, 5}, 0, 3, 0, 30, 0, 60, 0, 90, 0, 40),
        new Line(Check.COURT, "", "room", "", new int[] {1, 2}, 1, 9, 0, 9),
        new Line(Check.COURT, "", "proper", "", new int[] {1, 2}, 0, 40, 0, 30),
        new Line(Check.COURT, "", "slack", "", new int[] {1}, 0, 9),
        new Line(Check.COURT, "", "rest", "", new int[] {1}, 1, 9),
        new Line(Check.COURT, "", "glass", "", new int[] {1}, 0, 40),
        new Line(Check.COURT, "", "wind", "", new int[] {1, 2, 3}, 0, 9, 0, 9, 0, 9),
        new Line(Check.BALL, "", "glass", "", new int[] {1}, 0, 40),
        new Line(Check.BALL, "", "open", "", new int[] {1}, 0, 3),
        new Line(Check.BALL, "", "shut", "", new int[] {1}, 0, 3),
        new Line(Check.BALL, "", "sigh", "", new int[] {1}, 0, 7),
        new Line(Check.BALL, "", "tie", "", new int[] {1, 2}, 0, 7, 1, 9),
        new Line(Check.BALL, "", "loosen", "", new int[] {1, 2}, 0, 7, 1, 9),
        new Line(Check.BALL, "", "go", "", new int[] {1, 2}, 0, 7, 0, 3),
        new Line(Check.BALL, "", "toast", "", new int[] {}),
        new Line(Check.BALL, "", "minute", "", new int[] {}),
        new Line(Check.FORECAST, "", "mark", "", new int[] {1}, 0, 40),
        new Line(Check.SIGHT, "", "fell", "", new int[] {1, 2}, 0, 7, 1, 16),
        new Line(Check.SIGHT, "", "stood", "", new int[] {1, 2}, 0, 7, 1, 16),
        new Line(Check.SIGHT, "", "shot", " fell", new int[] {1, 2}, 0, 7, 0, 60),
        new Line(Check.SIGHT, "", "shot", " stood", new int[] {1, 2}, 0, 7, 0, 60),
        new Line(Check.LEDGER, "", "owes", "", new int[] {1, 2, 3}, 0, 7, 0, 7, 1, 99),
        new Line(Check.SHIFTS, "", "maid", "", new int[] {0, 30}, 0, 30, 0, 30),
    };

    public static void main(String[] args) {
        eachNumber();
        tooFewAndTooManyNumbers();
        wordsOfOtherSorts();
        secondOfOwes();
        toAheadOfFrom();
        properToldAlready();
        oneTooManyOfCourts();
        oneTooMany();
        seventeenthMark();
        roomsThatAreNotThere();
        weightsOfWind();
        laterOnesStrike();
        eachByteAsABlank();
        rowsOfDigits();
        cutTexts();
        fullTape();
        tapeCutAndFedOn();
        tapeIsTaken();
        nothingOfTheTextAhead();
        faultsByOrder();
        faultOfTheLatest();
        Check.finish();
    }

    private static void good(int sort, String text) {
        Check.dueFault(sort, text, 0, -1);
    }

    /** A ^ marks the place. */
    private static void bad(int sort, int fault, String marked) {
        int place = marked.indexOf('^');
        Check.dueFault(sort, marked.substring(0, place) + marked.substring(place + 1), fault, place);
    }

    private static String usual(Line line) {
        StringBuilder text = new StringBuilder(line.word);
        for (int number : line.usual) {
            text.append(' ').append(number);
        }
        return text.append(line.behind).append(';').toString();
    }

    private static void eachNumber() {
        for (Line line : LINES) {
            for (int k = 0; k < line.usual.length; k++) {
                for (int number = 0; number < 100; number++) {
                    boolean isSame = line.word.equals("owes") && k < 2 && number == line.usual[1 - k];
                    if (!isSame) {
                        dueNumber(line, k, "" + number, number);
                        dueNumber(line, k, number < 10 ? "0" + number : "" + number, number);
                    }
                }
            }
        }
    }

    private static void dueNumber(Line line, int at, String told, int number) {
        StringBuilder text = new StringBuilder(line.ahead + line.word);
        for (int k = 0; k < line.usual.length; k++) {
            text.append(k == at ? " ^" + told : " " + line.usual[k]);
        }
        text.append(line.behind).append(';');
        if (number >= line.bounds[2 * at] && number <= line.bounds[2 * at + 1]) {
            good(line.sort, text.toString().replace("^", ""));
        } else {
            bad(line.sort, 2, text.toString());
        }
    }

    private static void tooFewAndTooManyNumbers() {
        for (Line line : LINES) {
            StringBuilder text = new StringBuilder(line.ahead + line.word);
            for (int number : line.usual) {
                boolean isMark = line.sort == Check.FORECAST;
                bad(line.sort, 1, text + (line.behind.isEmpty() ? "^" : " ^" + line.behind.trim()) + ";");
                text.append(' ').append(number);
                if (isMark) {
                    good(line.sort, text + " 1;");
                    good(line.sort, text + " 1 1;");
                } else {
                    bad(line.sort, 1, text + " ^" + line.word + " 1;");
                }
            }
            good(line.sort, text + line.behind + ";");
            if (line.sort != Check.FORECAST) {
                bad(line.sort, 1, text + " ^1" + line.behind + ";");
            }
            bad(line.sort, 1, text + line.behind + ";^;");
            bad(line.sort, 1, text + line.behind + "^");
            bad(line.sort, 1, text + line.behind + " ^" + line.word + ";");
            bad(line.sort, 1, "^;" + text + line.behind + ";");
            bad(line.sort, 1, "^1;" + text + line.behind + ";");
        }
    }

    private static void wordsOfOtherSorts() {
        for (int sort = 0; sort < 6; sort++) {
            for (Line line : LINES) {
                boolean isGlass = sort < 2 && line.word.equals("glass");
                if (line.sort != sort && !isGlass) {
                    bad(sort, 1, "^" + usual(line));
                }
            }
            for (String word : new String[] {"a", "z", "rooms", "roo", "oom", "marks", "mar", "made"}) {
                bad(sort, 1, "^" + word + " 1 1;");
            }
        }
        bad(Check.SIGHT, 1, "shot 1 1^;");
        bad(Check.SIGHT, 1, "shot 1 1 ^fel;");
        bad(Check.SIGHT, 1, "shot 1 1 ^stoods;");
        bad(Check.SIGHT, 1, "fell ^stood 1 1;");
    }

    private static void secondOfOwes() {
        for (int one = 0; one < 8; one++) {
            for (int other = 0; other < 8; other++) {
                if (one == other) {
                    bad(Check.LEDGER, 2, "owes " + one + " ^" + other + " 1;");
                } else {
                    good(Check.LEDGER, "owes " + one + " " + other + " 1;");
                }
            }
        }
        bad(Check.LEDGER, 2, "owes ^8 8 1;");
        bad(Check.LEDGER, 2, "owes 5 ^05 1;owes 5 4 0;");
        bad(Check.LEDGER, 2, "owes 5 4 ^0;owes 5 5 1;");
    }

    private static void toAheadOfFrom() {
        for (int from = 0; from <= 30; from++) {
            good(Check.SHIFTS, "maid " + from + " " + from + ";");
            if (from > 0) {
                bad(Check.SHIFTS, 2, "maid " + from + " ^" + (from - 1) + ";");
            }
            if (from < 30) {
                good(Check.SHIFTS, "maid " + from + " " + (from + 1) + ";");
            }
        }
        bad(Check.SHIFTS, 2, "maid ^31 0;");
        bad(Check.SHIFTS, 2, "maid 30 ^31;");
    }

    private static void properToldAlready() {
        for (int mark = 0; mark <= 40; mark++) {
            int other = mark == 40 ? 39 : mark + 1;
            good(Check.COURT, "proper " + mark + " 0;proper " + other + " 0;");
            bad(Check.COURT, 2, "proper " + mark + " 0;proper " + other + " 5;proper ^" + mark + " 7;");
        }
        bad(Check.COURT, 2, "proper 9 0;proper 8 0;proper 7 0;proper 6 0;proper 5 0;proper ^9 1;");
        bad(Check.COURT, 2, "proper 1 0;proper ^1 31;");
        bad(Check.COURT, 2, "proper 1 ^31;proper 1 0;");
    }

    private static void oneTooManyOfCourts() {
        String[] lists = {"room 1 0;", "lady 0 0 0 0 0;", "proper # 0;"};
        int[] most = {4, 8, 6};
        for (int k = 0; k < 3; k++) {
            StringBuilder text = new StringBuilder(k == 1 ? "room 1 0;" : "");
            for (int n = 0; n < most[k]; n++) {
                text.append(lists[k].replace("#", "" + n));
                good(Check.COURT, text.toString());
            }
            String further = lists[k].replace("#", "9");
            bad(Check.COURT, 3, text + "^" + further);
            bad(Check.COURT, 3, text + "slack 1;\n ^" + further + "slack 10;");
        }
        // A full list leaves place in the others.
        good(Check.COURT, ROOMS + Check.times(8, "lady 3 0 0 0 0;") + "proper 0 0;");
    }

    private static void oneTooMany() {
        oneTooManyOf(Check.BALL, 40, "glass 1;", "open 1;", "shut 1;", "sigh 1;", "tie 1 1;", "loosen 1 1;",
                "go 1 1;", "toast;", "minute;");
        oneTooManyOf(Check.SIGHT, 20, "fell 1 1;", "stood 1 1;");
        oneTooManyOf(Check.SIGHT, 20, "shot 1 1 fell;", "shot 1 1 stood;");
        oneTooManyOf(Check.LEDGER, 30, "owes 1 2 1;", "owes 2 1 99;");
        oneTooManyOf(Check.SHIFTS, 10, "maid 0 30;", "maid 0 0;");
        String seen = Check.times(20, "fell 1 1;");
        String shots = Check.times(20, "shot 1 1 fell;");
        good(Check.SIGHT, seen + shots);
        good(Check.SIGHT, shots + seen);
        bad(Check.SIGHT, 3, shots + seen + "^stood 1 1;");
        bad(Check.SIGHT, 3, seen + shots + "^shot 1 1 stood;");
    }

    private static void oneTooManyOf(int sort, int most, String... lines) {
        for (String line : lines) {
            String full = Check.times(most, line);
            good(sort, Check.times(most - 1, line));
            good(sort, full);
            for (String further : lines) {
                bad(sort, 3, full + "^" + further);
                bad(sort, 3, full + " ^" + further + further);
            }
        }
    }

    private static void seventeenthMark() {
        String sixteen = "mark 0 1 2 3 4 5 6 7 8 9 10 11 12 13 14 40";
        good(Check.FORECAST, sixteen + ";");
        bad(Check.FORECAST, 3, sixteen + " ^1;");
        bad(Check.FORECAST, 3, sixteen + " ^40 41;");
        bad(Check.FORECAST, 2, sixteen + " ^41;");
        bad(Check.FORECAST, 3, sixteen + ";mark ^1;");
        bad(Check.FORECAST, 2, sixteen + ";mark ^41;");
        bad(Check.FORECAST, 2, "mark ^99 1;" + sixteen + ";");
        good(Check.FORECAST, Check.times(16, "mark 0;"));
        bad(Check.FORECAST, 3, Check.times(16, "mark 0;") + "mark ^0;");
    }

    private static void roomsThatAreNotThere() {
        for (int rooms = 0; rooms <= 4; rooms++) {
            for (int room = 0; room < 4; room++) {
                String there = Check.times(rooms, "room 1 0;");
                String lady = "lady " + room + " 0 0 0 0;";
                if (room < rooms) {
                    good(Check.COURT, there + lady);
                    good(Check.COURT, lady + there);
                } else {
                    bad(Check.COURT, 4, there + lady + "^");
                    bad(Check.COURT, 4, lady + there + "\n^");
                }
            }
        }
        String seven = Check.times(7, "lady 0 0 0 0 0;");
        bad(Check.COURT, 4, "room 1 0;" + seven + "lady 1 0 0 0 0;^");
        bad(Check.COURT, 4, "lady 1 0 0 0 0;room 1 0;" + seven + "^");
        // FAULT 4 is of a COURT alone.
        good(Check.BALL, "open 3;sigh 7;go 7 3;");
        good(Check.SIGHT, "fell 7 1;shot 7 1 fell;");
        good(Check.LEDGER, "owes 7 6 1;");
    }

    private static void weightsOfWind() {
        for (int bits = 1; bits < 8; bits++) {
            String wind = "wind " + (bits & 1) + " " + (bits >> 1 & 1) + " " + (bits >> 2) + ";";
            good(Check.COURT, wind);
            good(Check.COURT, "wind 0 0 0;" + wind);
        }
        bad(Check.COURT, 4, "wind 0 0 0;^");
        bad(Check.COURT, 4, "wind 0 0 0;room 1 0;lady 1 0 0 0 0;^");
        bad(Check.COURT, 4, "wind 00 0 00;^");
        bad(Check.COURT, 4, "wind 9 9 9;wind 0 0 0;^");
    }

    private static void laterOnesStrike() {
        GlassLaces x = Check.told(Check.COURT, "slack 9;rest 9;glass 40;wind 9 8 7;slack 0;rest 1;glass 0;wind 0 0 1;");
        int[] due = {0, 1, 0, 0, 0, 1};
        for (int k = 0; k < due.length; k++) {
            Check.due("struck court(0, " + (3 + k) + ")", x.court(0, 3 + k), due[k]);
        }
        x = Check.told(Check.COURT, "room 1 1;room 1 1;lady 0 1 1 1 1;lady 0 1 1 1 1;", Check.BALL, "glass 1;glass 1;",
                Check.FORECAST, "mark 1;mark 1;", Check.SIGHT, "fell 1 1;fell 1 1;shot 1 1 fell;shot 1 1 fell;",
                Check.LEDGER, "owes 1 2 1;owes 1 2 1;", Check.SHIFTS, "maid 1 1;maid 1 1;");
        Check.due("ROOMS", x.court(0, 0), 2);
        Check.due("LADIES", x.court(0, 1), 2);
        Check.due("DEEDS", x.deed(0, -1, 0), 2);
        Check.due("MARKS", x.mark(0, -1), 2);
        Check.due("SEEN", x.sight(0, 0), 2);
        Check.due("SHOTS", x.sight(0, 1), 2);
        Check.due("PAWNS", x.pawn(0, -1, 0), 2);
        Check.due("MAIDS", x.maid(0, -1, 0), 2);
        // What a later one strikes must be a NUMBER that can be all the same.
        bad(Check.COURT, 2, "slack ^10;slack 1;");
        bad(Check.COURT, 2, "rest ^0;rest 1;");
        bad(Check.COURT, 2, "glass ^41;glass 1;");
        bad(Check.COURT, 2, "wind 0 0 ^10;wind 1 1 1;");
    }

    private static void eachByteAsABlank() {
        for (int sign = 0; sign < 256; sign++) {
            String s = "" + (char) sign;
            boolean isBlank = sign == 10 || sign == 32;
            boolean isLetter = sign >= 'a' && sign <= 'z';
            boolean isDigit = sign >= '0' && sign <= '9';
            // A letter lengthens the word, a digit makes a row of three.
            dueBetween(isBlank, (isLetter ? "^maid" : "maid^") + s + "12 30;");
            dueBetween(isBlank, (isDigit ? "maid ^1" : "maid 1^") + s + "2;");
            dueBetween(isBlank || isDigit, "maid 1 2" + (sign == ';' ? ";^;" : "^" + s + ";"));
            dueBetween(isBlank, "maid 1 2;^" + s);
            dueBetween(isBlank, "^" + s + "maid 1 2;");
        }
        good(Check.SHIFTS, "maid1 2;");
        good(Check.SHIFTS, "maid 1 2;maid 1 2;");
        good(Check.SIGHT, "shot1 2fell;shot1 2stood;");
    }

    private static void dueBetween(boolean isGood, String marked) {
        if (isGood) {
            good(Check.SHIFTS, marked.replace("^", ""));
        } else {
            bad(Check.SHIFTS, 1, marked);
        }
    }

    private static void rowsOfDigits() {
        good(Check.SHIFTS, "maid 0 0;");
        good(Check.SHIFTS, "maid 00 00;");
        bad(Check.SHIFTS, 1, "maid ^000 0;");
        bad(Check.SHIFTS, 1, "maid 0 ^000;");
        bad(Check.SHIFTS, 1, "maid ^0000 0;");
        bad(Check.SHIFTS, 1, "maid 0 ^" + Check.times(592, "1") + ";");
        bad(Check.SHIFTS, 1, "maid 0 0;^000");
        bad(Check.SHIFTS, 1, "^000 maid 0 0;");
        bad(Check.FORECAST, 1, "mark 1 ^100 2;");
        bad(Check.FORECAST, 1, "mark 1 41 ^100 2;");
    }

    /** A text that ends ahead of its time has FAULT 1 at its end, or at the word that is cut. */
    private static void cutTexts() {
        String[] texts = {"room 1 2;room 3 4;lady 1 20 30 40 5;proper 10 11;slack 1;wind 1 2 3;",
            "glass 11;tie 1 2;toast;minute;", "mark 11 22 33;mark 4;", "fell 1 12;shot 1 22 stood;",
            "owes 1 2 33;", "maid 11 22 ; maid 3 4;"};
        for (int sort = 0; sort < 6; sort++) {
            for (int end = 0; end <= texts[sort].length(); end++) {
                dueCut(sort, texts[sort].substring(0, end), texts[sort].substring(end));
            }
        }
    }

    private static void dueCut(int sort, String cut, String behind) {
        String word = cut.replaceAll("(?s).*[^a-z]", "");
        boolean isWordCut = !word.isEmpty() && behind.matches("(?s)[a-z].*");
        if (cut.isBlank() || cut.trim().endsWith(";")) {
            good(sort, cut);
        } else {
            bad(sort, 1, isWordCut ? cut.substring(0, cut.length() - word.length()) + "^" + word : cut + "^");
        }
    }

    private static void fullTape() {
        String blanks = Check.times(590, " ");
        good(Check.SHIFTS, Check.times(600, " "));
        good(Check.SHIFTS, Check.times(600, "\n"));
        good(Check.SHIFTS, blanks + " maid 0 0;");
        bad(Check.SHIFTS, 1, blanks + "  maid 0 0^");
        bad(Check.SHIFTS, 1, blanks + " maid 0 0^:");
        bad(Check.SHIFTS, 1, Check.times(599, " ") + "^m");
        bad(Check.SHIFTS, 1, "^" + Check.times(600, "m"));
        bad(Check.SHIFTS, 1, Check.times(597, " ") + "^;;;");
        bad(Check.COURT, 4, Check.times(588, " ") + "wind 0 0 0; ^");
        good(Check.FORECAST, "mark" + Check.times(16, Check.times(36, " ") + "9") + "\n\n\n;");
        GlassLaces x = new GlassLaces();
        Check.due("text of a full tape", Check.read(x, Check.SHIFTS, blanks + " maid 7 9;"), 0);
        Check.due("its MAID", 100 * x.maid(0, 0, 0) + x.maid(0, 0, 1), 709);
        // The full tape's bytes are no part of a shorter one behind it.
        Check.due("text of a short tape", Check.read(x, Check.SHIFTS, "maid 7 9"), -1);
        Check.due("its place", x.fault(1), 8);
        Check.due("text of an empty tape", Check.read(x, Check.SHIFTS, ""), 1);
    }

    private static void tapeCutAndFedOn() {
        GlassLaces x = new GlassLaces();
        for (int k = 1; k <= 30; k++) {
            Check.due("feed " + k, x.feed(0, 0, 0, 0, 0), 20 * k);
        }
        Check.due("feed on 600", x.feed(0, 0, 0, 0, 0), -1);
        for (int n : new int[] {601, 602, 620, Integer.MAX_VALUE, -1, -2, Integer.MIN_VALUE}) {
            Check.due("end(" + n + ") of 600", x.end(n), -1);
        }
        for (int n = 600; n > 580; n--) {
            Check.due("end(" + n + ")", x.end(n), n);
            Check.due("end(" + (n + 1) + ") of " + n, x.end(n + 1), -1);
            Check.due("feed on " + n, x.feed(0, 0, 0, 0, 0), -1);
            Check.due("nothing came", x.end(n + 1), -1);
        }
        Check.due("end(580)", x.end(580), 580);
        Check.due("feed on 580", x.feed(0, 0, 0, 0, 0), 600);
        Check.due("end(0)", x.end(0), 0);
        Check.due("end(0) of none", x.end(0), 0);
        Check.due("end(1) of none", x.end(1), -1);
        // "mark 2;" and what is cut off behind it.
        Check.due("feed on none", x.feed(0x6D61726B, 0x20323B3F, 0x3F3F3F3F, -1, -1), 20);
        Check.due("end(7)", x.end(7), 7);
        Check.due("text", x.text(Check.FORECAST, -1), 0);
        Check.due("its MARK", x.mark(0, 0), 2);
        // "mark 1;" and bytes above 127: numbers below 0 come by bytes too.
        Check.due("feed of bytes above 127", x.feed(0x6D61726B, 0x20313BE9, 0x80FF0001, -1, Integer.MIN_VALUE), 20);
        Check.due("text with such bytes", x.text(Check.FORECAST, -1), -1);
        Check.due("place of the first of them", x.fault(1), 7);
        Check.due("feed of one bit", x.feed(0x20202020, 0x20202020, 0x20202020, 0x20202020, 0x20202000), 20);
        Check.due("text with a byte 0", x.text(Check.FORECAST, -1), -1);
        Check.due("its place", x.fault(1), 19);
    }

    private static void tapeIsTaken() {
        GlassLaces x = new GlassLaces();
        dueTaken(x, Check.COURT, 0, "room 1 0;", -2, 0);
        dueTaken(x, Check.COURT, -1, "room 1 0;!", -1, 0);
        dueTaken(x, Check.COURT, 0, "room 1 0;", -2, 0);
        dueTaken(x, Check.COURT, -1, "room 1 0;", 0, 1);
        dueTaken(x, Check.COURT, 1, "room 1 0;", -2, 1);
        dueTaken(x, Check.COURT, 0, "room 1 0;!", -1, 1);
        dueTaken(x, Check.COURT, 0, "room 1 0;", 0, 1);
        dueTaken(x, Check.COURT, -1, "!", -1, 1);
        dueTaken(x, Check.COURT, -1, "", 1, 2);
        for (int at : new int[] {-1, 2, 3, -2, Integer.MAX_VALUE, Integer.MIN_VALUE}) {
            dueTaken(x, Check.COURT, at, "room 1 0;", -2, 2);
            dueTaken(x, Check.COURT, at, "!", -2, 2);
        }
        dueTaken(x, Check.COURT, 1, "", 1, 2);
        dueTaken(x, Check.COURT, 0, "", 0, 2);
        for (int sort : new int[] {-1, 6, 7, -2, Integer.MAX_VALUE, Integer.MIN_VALUE}) {
            for (int at = -1; at < 3; at++) {
                dueTaken(x, sort, at, "", -2, 2);
                dueTaken(x, sort, at, "!", -2, 2);
            }
        }
    }

    /** Each of these follows a FAULT, so that -2 is seen to take it away. */
    private static void dueTaken(GlassLaces x, int sort, int at, String text, int due, int courts) {
        Check.read(x, Check.SHIFTS, "!");
        String call = "text(" + sort + ", " + at + ") of \"" + text + "\"";
        Check.feed(x, text);
        Check.due(call, x.text(sort, at), due);
        Check.due("tape behind " + call, x.end(1), -1);
        Check.due("FAULT of " + call, x.fault(0), due == -1 ? 1 : 0);
        Check.due("place of " + call, x.fault(1), due == -1 ? text.indexOf('!') : -1);
        Check.due("COURTS behind " + call, x.count(Check.COURT), courts);
    }

    /** What a text told, or would have told without its FAULT, is no part of the next one. */
    private static void nothingOfTheTextAhead() {
        String[] full = {ROOMS + Check.times(8, "lady 3 1 1 1 1;") + "proper 1 1;proper 2 1;slack 0;rest 9;glass 1;"
            + "wind 9 8 7;", Check.times(40, "toast;"), Check.times(16, "mark 1;"),
            Check.times(20, "fell 1 1;") + Check.times(20, "shot 1 1 fell;"), Check.times(30, "owes 1 2 3;"),
            Check.times(10, "maid 1 2;")};
        for (String behind : new String[] {"", "!"}) {
            GlassLaces x = new GlassLaces();
            for (int sort = 0; sort < 6; sort++) {
                Check.due("a full text of " + sort, Check.read(x, sort, full[sort] + behind), behind.isEmpty() ? 0 : -1);
            }
            for (int sort = 0; sort < 6; sort++) {
                Check.due("an empty text of " + sort, Check.read(x, sort, ""), behind.isEmpty() ? 1 : 0);
            }
            int k = behind.isEmpty() ? 1 : 0;
            int[] court = {0, 0, 0, 2, 3, 30, 1, 1, 1, -1, -1};
            for (int what = 0; what < court.length; what++) {
                Check.due("empty court(" + k + ", " + what + ")", x.court(k, what), court[what]);
            }
            Check.due("no lady", x.lady(k, 0, 0), -1);
            Check.due("no DEED", x.deed(k, -1, 0), 0);
            Check.due("no MARK", x.mark(k, -1), 0);
            Check.due("no SEEN one", x.sight(k, 0), 0);
            Check.due("no SHOT", x.sight(k, 1), 0);
            Check.due("no PAWN", x.pawn(k, -1, 0), 0);
            Check.due("no MAID", x.maid(k, -1, 0), 0);
        }
    }

    private static void faultsByOrder() {
        // FAULT 1 goes ahead of all others, wherever it is.
        bad(Check.COURT, 1, "room 0 0;" + ROOMS + "lady 3 31 0 0 0;wind 0 0 0;slack 1^");
        bad(Check.COURT, 1, "lady 3 0 0 0 0;wind 0 0 0;^!");
        bad(Check.FORECAST, 1, "mark 41" + Check.times(20, " 1") + "^!");
        // Then the first by place, of 2 and 3.
        bad(Check.COURT, 2, "room ^0 10;" + ROOMS + ROOMS);
        bad(Check.COURT, 3, ROOMS + "^room 0 10;slack 10;");
        bad(Check.COURT, 2, "slack ^10;" + ROOMS + "room 1 0;");
        bad(Check.SIGHT, 2, Check.times(20, "fell 1 1;") + "shot ^8 1 fell;fell 1 1;");
        bad(Check.SIGHT, 3, Check.times(20, "fell 1 1;") + "^fell 1 1;shot 8 1 fell;");
        // A line with a NUMBER that can't be counts in its list: the place of the first stays.
        bad(Check.COURT, 2, "room ^0 0;" + ROOMS);
        bad(Check.COURT, 2, "proper 1 ^31;proper 2 0;proper 3 0;proper 4 0;proper 5 0;proper 6 0;proper 7 0;");
        // Then FAULT 4.
        bad(Check.COURT, 2, "lady 3 0 0 0 0;wind 0 0 0;slack ^10;");
        bad(Check.COURT, 3, "wind 0 0 0;" + ROOMS + "^room 1 0;");
        bad(Check.COURT, 4, "lady 3 0 0 0 0;wind 0 0 0;slack 9;^");
    }

    private static void faultOfTheLatest() {
        GlassLaces x = new GlassLaces();
        Check.due("FAULT ahead of any text", x.fault(0), 0);
        Check.due("place ahead of any text", x.fault(1), -1);
        Check.read(x, Check.SHIFTS, "maid 5 4;");
        x.feed(0, 0, 0, 0, 0);
        x.feed(0, 0, 0, 0, 0);
        x.end(21);
        x.end(0);
        Check.due("FAULT behind feed and end", x.fault(0), 2);
        Check.due("place behind feed and end", x.fault(1), 7);
        for (int what : new int[] {2, 3, -1, -2, Integer.MAX_VALUE, Integer.MIN_VALUE}) {
            Check.due("fault(" + what + ")", x.fault(what), -1);
        }
        Check.read(x, Check.SHIFTS, "");
        Check.due("FAULT behind a good text", x.fault(0), 0);
        Check.due("place behind a good text", x.fault(1), -1);
        Check.read(x, Check.COURT, "lady 0 0 0 0 0;");
        Check.due("FAULT of a COURT as a whole", x.fault(0), 4);
        Check.due("its place", x.fault(1), 15);
        Check.read(x, Check.COURT, Check.times(5, "room 1 0;"));
        Check.due("FAULT of a list too long", x.fault(0), 3);
        Check.due("its place", x.fault(1), 36);
    }
}
