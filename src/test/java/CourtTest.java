/** Promises 6, 7, 8, 32 and 33: court, lady, under, climb, calm. */
public final class CourtTest {
    static final String COURT = "room 2 0;room 5 4;lady 0 5 10 40 28;lady 0 8 20 35 20;lady 1 3 9 60 10;"
            + "proper 20 6;proper 30 3;slack 2;rest 2;glass 29;wind 1 2 1;";

    public static void main(String[] args) {
        court();
        courtAtFirst();
        proper();
        lady();
        under();
        climb();
        calm();
        Check.finish();
    }

    private static void court() {
        GlassLaces x = Check.told(Check.COURT, "room 2 0;room 5 4;room 9 9;lady 0 5 10 40 28;lady 2 8 20 35 20;"
                + "proper 20 6;proper 30 3;proper 7 30;slack 1;rest 9;glass 40;wind 3 2 1;");
        int[] due = {3, 2, 3, 1, 9, 40, 3, 2, 1, -1, 2, 5, 9, -1, -1, -1, -1, -1, -1, -1, 0, 4, 9, -1, -1, -1,
            -1, -1, -1, -1, 20, 30, 7, -1, -1, -1, -1, -1, -1, -1, 6, 3, 30, -1};
        for (int what = 0; what < due.length; what++) {
            Check.due("court(0, " + what + ")", x.court(0, what), due[what]);
        }
        for (int what : new int[] {-1, -10, 44, 46, 50, 60, 99, 141, 200, Integer.MAX_VALUE, Integer.MIN_VALUE}) {
            Check.due("court(0, " + what + ")", x.court(0, what), -1);
        }
        for (int court : new int[] {-1, 1, 2, Integer.MIN_VALUE}) {
            Check.due("court(" + court + ", 0)", x.court(court, 0), -1);
        }
    }

    private static void courtAtFirst() {
        GlassLaces x = Check.told(Check.COURT, "");
        int[] due = {0, 0, 0, 2, 3, 30, 1, 1, 1};
        for (int what = 0; what < due.length; what++) {
            Check.due("empty court(0, " + what + ")", x.court(0, what), due[what]);
        }
        x = Check.told(Check.COURT, "slack 3;rest 4;glass 5;wind 6 7 8;wind 0 1 2;glass 7;rest 8;slack 9;");
        int[] struck = {0, 0, 0, 9, 8, 7, 0, 1, 2};
        for (int what = 0; what < struck.length; what++) {
            Check.due("struck court(0, " + what + ")", x.court(0, what), struck[what]);
        }
    }

    private static void proper() {
        GlassLaces x = Check.told(Check.COURT, "proper 30 3;proper 20 6;proper 35 9;");
        for (int mark = 0; mark <= 40; mark++) {
            int due = mark < 20 ? 0 : mark < 30 ? 6 : mark < 35 ? 3 : 9;
            Check.due("PROPER at " + mark, x.court(0, 100 + mark), due);
        }
        x = Check.told(Check.COURT, "proper 0 30;");
        Check.due("PROPER at 0", x.court(0, 100), 30);
        Check.due("PROPER at 40", x.court(0, 140), 30);
    }

    private static void lady() {
        GlassLaces x = Check.told(Check.COURT, COURT);
        int[][] due = {{0, 5, 10, 40, 28}, {0, 8, 20, 35, 20}, {1, 3, 9, 60, 10}};
        for (int lady = 0; lady < 3; lady++) {
            for (int what = 0; what < 5; what++) {
                Check.due("lady(0, " + lady + ", " + what + ")", x.lady(0, lady, what), due[lady][what]);
            }
        }
        Check.due("lady, what 5", x.lady(0, 0, 5), -1);
        Check.due("lady, what -1", x.lady(0, 0, -1), -1);
        Check.due("lady 3", x.lady(0, 3, 0), -1);
        Check.due("lady -1", x.lady(0, -1, 0), -1);
        Check.due("lady of court 1", x.lady(1, 0, 0), -1);
        Check.due("lady of court -1", x.lady(-1, 0, 0), -1);
    }

    private static void under() {
        GlassLaces x = Check.told(Check.COURT, COURT + "lady 0 0 0 0 0;");
        Check.due("stands", x.under(0, 0, 5, 35), 0);
        Check.due("bursts", x.under(0, 0, 5, 36), 2);
        Check.due("stands", x.under(0, 0, 5, 25), 0);
        Check.due("faints", x.under(0, 0, 5, 24), 1);
        Check.due("faints", x.under(0, 0, 0, -9), 1);
        Check.due("bursts ahead of fainting", x.under(0, 3, 5, 10), 2);
        Check.due("bursts", x.under(0, 0, 0, 60), 2);
        Check.due("faints", x.under(0, 0, 30, 10), 1);
        Check.due("bursts", x.under(0, 0, 30, 11), 2);
        Check.due("PRESSURE -10", x.under(0, 0, 0, -10), -1);
        Check.due("PRESSURE 61", x.under(0, 0, 0, 61), -1);
        Check.due("LACE 31", x.under(0, 0, 31, 0), -1);
        Check.due("LACE -1", x.under(0, 0, -1, 0), -1);
        Check.due("lady 4", x.under(0, 4, 0, 0), -1);
        Check.due("lady -1", x.under(0, -1, 0, 0), -1);
        Check.due("court 1", x.under(1, 0, 0, 0), -1);
    }

    /** Lady 0 stands, laced as told, from PRESSURE 25 to 35. */
    private static void climb() {
        GlassLaces x = Check.told(Check.COURT, COURT + "lady 0 0 60 90 0;");
        dueClimb(x, 0, 29, "4 3 10 0 9");
        dueClimb(x, 0, 40, "15 0 1 0 0");
        dueClimb(x, 0, 36, "11 2 5 0 4");
        dueClimb(x, 0, 25, "0 1 6 0 5");
        dueClimb(x, 0, 20, "-1 0 1 0 0");
        dueClimb(x, 0, 19, "-1 0 0 -1 -1");
        dueClimb(x, 2, 29, "5 3 5 0 4");
        dueClimb(x, 3, 40, "40 3 31 0 30");
        dueClimb(x, 3, 0, "30 3 31 0 30");
        Check.due("climb, what 5", x.climb(0, 0, 29, 5), -2);
        Check.due("climb, what -1", x.climb(0, 0, 29, -1), -2);
        Check.due("climb at 41", x.climb(0, 0, 41, 0), -2);
        Check.due("climb at -1", x.climb(0, 0, -1, 0), -2);
        Check.due("climb of lady 4", x.climb(0, 4, 29, 0), -2);
        Check.due("climb of lady -1", x.climb(0, -1, 29, 0), -2);
        Check.due("climb in court 1", x.climb(1, 0, 29, 0), -2);
    }

    private static void dueClimb(GlassLaces x, int lady, int mark, String due) {
        StringBuilder got = new StringBuilder();
        for (int what = 0; what < 5; what++) {
            got.append(x.climb(0, lady, mark, what)).append(' ');
        }
        Check.dueRow("climb of " + lady + " at " + mark, got.toString(), due);
    }

    private static void calm() {
        GlassLaces x = Check.told(Check.COURT, COURT + "lady 0 0 0 0 0;");
        Check.due("calm(0, 0, 0)", x.calm(0, 0, 0), 21);
        Check.due("calm(0, 0, 5)", x.calm(0, 0, 5), 11);
        Check.due("calm(0, 0, 10)", x.calm(0, 0, 10), 1);
        Check.due("calm(0, 0, 11)", x.calm(0, 0, 11), 0);
        Check.due("calm(0, 2, 3)", x.calm(0, 2, 3), 13);
        Check.due("calm(0, 2, 30)", x.calm(0, 2, 30), 0);
        Check.due("BEST of 0", x.calm(0, 0, -1), 0);
        Check.due("BEST of one who never stands", x.calm(0, 3, -1), 0);
        Check.due("calm of LACE 31", x.calm(0, 0, 31), -1);
        Check.due("calm of LACE -2", x.calm(0, 0, -2), -1);
        Check.due("calm of lady 4", x.calm(0, 4, 0), -1);
        Check.due("calm of lady -1", x.calm(0, -1, 0), -1);
        Check.due("calm in court 1", x.calm(1, 0, 0), -1);
        Check.due("BEST in court 1", x.calm(1, 0, -1), -1);
    }
}
