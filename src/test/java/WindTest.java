/** Promises 18 to 20 and 31: reach, drop, worth (in lowest terms), drawn. */
public final class WindTest {
    public static void main(String[] args) {
        reach();
        reachFar();
        ends();
        drop();
        worth();
        drawnGlass();
        drawnNumbers();
        drawnMinutes();
        Check.finish();
    }

    private static void dueReach(GlassLaces x, int mark, int n, boolean ends, long top, long bottom) {
        String call = (ends ? "ENDS of " : "REACH of ") + mark + " in " + n;
        Check.due(call + ", N", x.reach(0, mark, n, ends, false), top);
        Check.due(call + ", D", x.reach(0, mark, n, ends, true), bottom);
    }

    private static void reach() {
        GlassLaces x = Check.told(Check.COURT, CourtTest.COURT);
        dueReach(x, 29, 0, false, 1, 1);
        dueReach(x, 28, 0, false, 0, 1);
        dueReach(x, 29, 1, false, 1, 2);
        dueReach(x, 28, 1, false, 1, 4);
        dueReach(x, 31, 1, false, 0, 1);
        dueReach(x, 29, 2, false, 3, 8);
        dueReach(x, 30, 2, false, 1, 4);
        dueReach(x, 31, 2, false, 1, 16);
        Check.due("mark 41", x.reach(0, 41, 1, false, false), -1);
        Check.due("mark -1", x.reach(0, -1, 1, false, true), -1);
        Check.due("10 minutes", x.reach(0, 29, 10, false, false), -1);
        Check.due("-1 minutes", x.reach(0, 29, -1, true, true), -1);
        Check.due("court 1", x.reach(1, 29, 1, false, false), -1);
        Check.due("court -1", x.reach(-1, 29, 1, true, false), -1);
    }

    private static void reachFar() {
        GlassLaces x = Check.told(Check.COURT, "wind 9 8 9;");
        dueReach(x, 39, 9, false, 387420489L, 5429503678976L);
        dueReach(x, 21, 9, false, 387420489L, 5429503678976L);
        x = Check.told(Check.COURT, "wind 9 9 9;");
        dueReach(x, 39, 9, false, 1, 19683);
        x = Check.told(Check.COURT, "wind 1 0 1;glass 0;");
        dueReach(x, 0, 1, false, 1, 2);
        dueReach(x, 1, 1, false, 1, 2);
        dueReach(x, 1, 2, false, 1, 4);
        dueReach(x, 0, 2, false, 1, 2);
        x = Check.told(Check.COURT, "wind 0 0 7;glass 40;");
        dueReach(x, 40, 9, false, 1, 1);
        dueReach(x, 39, 9, false, 0, 1);
        x = Check.told(Check.COURT, "wind 3 0 1;glass 10;");
        dueReach(x, 9, 1, false, 3, 4);
        dueReach(x, 11, 1, false, 1, 4);
    }

    private static void ends() {
        GlassLaces x = Check.told(Check.COURT, CourtTest.COURT);
        dueReach(x, 29, 0, true, 1, 1);
        dueReach(x, 30, 0, true, 0, 1);
        dueReach(x, 29, 9, true, 1, 1);
        dueReach(x, 30, 1, true, 1, 4);
        dueReach(x, 30, 2, true, 3, 8);
        dueReach(x, 31, 2, true, 1, 16);
        x = Check.told(Check.COURT, "wind 1 0 0;glass 3;");
        dueReach(x, 2, 1, true, 1, 1);
        dueReach(x, 0, 2, true, 0, 1);
        dueReach(x, 0, 3, true, 1, 1);
        dueReach(x, 2, 9, true, 1, 1);
        dueReach(x, 2, 9, false, 0, 1);
    }

    private static void dueDrop(GlassLaces x, int lady, int n, long top, long bottom) {
        Check.due("DROP of " + lady + " in " + n + ", N", x.drop(0, lady, n, false), top);
        Check.due("DROP of " + lady + " in " + n + ", D", x.drop(0, lady, n, true), bottom);
    }

    private static void drop() {
        GlassLaces x = Check.told(Check.COURT, CourtTest.COURT);
        dueDrop(x, 1, 0, 0, 1);
        dueDrop(x, 1, 1, 1, 1);
        dueDrop(x, 1, 9, 1, 1);
        dueDrop(x, 0, 4, 0, 1);
        dueDrop(x, 0, 5, 1, 1024);
        dueDrop(x, 2, 1, 0, 1);
        dueDrop(x, 2, 2, 1, 16);
        dueDrop(x, 2, 3, 1, 8);
        Check.due("drop of 3", x.drop(0, 3, 1, false), -1);
        Check.due("drop of -1", x.drop(0, -1, 1, true), -1);
        Check.due("drop in court 1", x.drop(1, 0, 1, false), -1);
        Check.due("drop in 10", x.drop(0, 0, 10, false), -1);
        Check.due("drop in -1", x.drop(0, 0, -1, true), -1);
    }

    private static void dueWorth(GlassLaces x, int lady, int pen, int top, int bottom, int lace) {
        String call = "WORTH to " + lady + " by " + pen;
        Check.due(call + ", N", x.worth(0, lady, pen, 0), top);
        Check.due(call + ", D", x.worth(0, lady, pen, 1), bottom);
        Check.due(call + ", LACE", x.worth(0, lady, pen, 2), lace);
    }

    /** Lady 1 (LACE 8) stands by LACES up to 7, 6, 5 at 28, 29, 30, which have weights 1, 2, 1. */
    private static void worth() {
        GlassLaces x = Check.told(Check.COURT, CourtTest.COURT);
        dueWorth(x, 0, 99, 0, 1, 5);
        dueWorth(x, 1, 0, 0, 1, 8);
        dueWorth(x, 1, 1, 0, 1, 8);
        dueWorth(x, 1, 2, 1, 4, 8);
        dueWorth(x, 1, 3, 3, 4, 6);
        dueWorth(x, 1, 4, 1, 1, 5);
        dueWorth(x, 1, 10, 1, 1, 5);
        dueWorth(x, 1, 99, 1, 1, 5);
        Check.due("PEN 100", x.worth(0, 1, 100, 0), -1);
        Check.due("PEN -1", x.worth(0, 1, -1, 1), -1);
        Check.due("worth, what 3", x.worth(0, 1, 1, 3), -1);
        Check.due("worth, what -1", x.worth(0, 1, 1, -1), -1);
        Check.due("worth to 3", x.worth(0, 3, 1, 0), -1);
        Check.due("worth to -1", x.worth(0, -1, 1, 2), -1);
        Check.due("worth in court 1", x.worth(1, 0, 1, 0), -1);
        x = Check.told(Check.COURT, "room 1 0;lady 0 30 60 90 0;lady 0 30 60 20 0;");
        dueWorth(x, 0, 99, 0, 1, 30);
        dueWorth(x, 1, 2, 0, 1, 30);
        x = Check.told(Check.COURT, "room 1 0;lady 0 5 60 45 0;glass 40;wind 0 0 1;");
        dueWorth(x, 0, 99, 0, 1, 5);
        x = Check.told(Check.COURT, "room 1 0;lady 0 5 60 44 0;glass 40;wind 1 0 1;");
        dueWorth(x, 0, 99, 1, 2, 4);
        dueWorth(x, 0, 1, 0, 1, 5);
        dueWorth(x, 0, 2, 1, 2, 4);
    }

    private static void drawnGlass() {
        GlassLaces x = Check.told(Check.COURT, "wind 1 0 0;glass 3;", Check.COURT, "wind 0 0 2;glass 38;");
        int[] down = {3, 2, 1, 0, 0, 0};
        int[] up = {38, 39, 40, 40, 40, 40};
        for (int n = 0; n < 6; n++) {
            Check.due("GLASS going down, " + n, x.drawn(0, 5, n, 0), down[n]);
            Check.due("the least", x.drawn(0, 5, n, 5), down[n]);
            Check.due("the most", x.drawn(0, 5, n, 6), 3);
            Check.due("GLASS going up, " + n, x.drawn(1, 5, n, 0), up[n]);
            Check.due("the least", x.drawn(1, 5, n, 5), 38);
            Check.due("the most", x.drawn(1, 5, n, 6), up[n]);
        }
        Check.due("60 minutes", x.drawn(0, 5, 60, 0), 0);
        Check.due("61 minutes", x.drawn(0, 5, 61, 0), -1);
        Check.due("-1 minutes", x.drawn(0, 5, -1, 0), -1);
        Check.due("court 2", x.drawn(2, 5, 1, 0), -1);
        Check.due("court -1", x.drawn(-1, 5, 1, 0), -1);
    }

    /** The numbers drawn, reckoned anew by longs. */
    private static void drawnNumbers() {
        int[][] winds = {{1, 1, 1}, {1, 2, 1}, {9, 0, 9}, {3, 5, 8}};
        for (int[] wind : winds) {
            GlassLaces x = Check.told(Check.COURT, "glass 20;wind " + wind[0] + " " + wind[1] + " " + wind[2] + ";");
            for (int seed : new int[] {0, 1, -1, 12345, Integer.MAX_VALUE, Integer.MIN_VALUE, -987654321}) {
                long s = seed & 0xFFFFFFFFL;
                int glass = 20;
                for (int n = 0; n <= 20; n++) {
                    Check.due("GLASS by " + seed + ", " + n, x.drawn(0, seed, n, 0), glass);
                    s = (s * 1103515245L + 12345L) & 0xFFFFFFFFL;
                    long number = s / 65536 % (wind[0] + wind[1] + wind[2]);
                    glass += number < wind[0] ? -1 : number < wind[0] + wind[1] ? 0 : 1;
                    glass = Math.max(0, Math.min(40, glass));
                }
            }
        }
        GlassLaces x = Check.told(Check.COURT, "");
        Check.due("seed -1, without sign", x.drawn(0, -1, 1, 0), 30);
        Check.due("seed 0", x.drawn(0, 0, 1, 0), 29);
    }

    /** The GLASS goes down from 30 each minute. */
    private static void drawnMinutes() {
        GlassLaces x = Check.told(Check.COURT, "room 1 0;room 1 2;lady 0 0 2 90 27;lady 1 0 60 26 26;"
                + "lady 0 0 60 90 26;rest 2;wind 1 0 0;glass 30;");
        String[] due = {
            "30 7 0 0 0 30 30 0 0 0 -1",
            "29 5 0 2 1 29 30 0 0 0 -1",
            "28 5 0 2 2 28 30 0 0 0 -1",
            "27 4 1 2 2 27 30 1 0 0 -1",
            "26 4 1 2 2 26 30 1 0 0 -1",
            "25 4 1 2 2 25 30 2 0 0 -1",
        };
        for (int n = 0; n < due.length; n++) {
            StringBuilder got = new StringBuilder();
            for (int what : new int[] {0, 1, 2, 3, 4, 5, 6, 10, 11, 12, 13}) {
                got.append(x.drawn(0, 7, n, what)).append(' ');
            }
            Check.dueRow("DRAWN, " + n + " minutes", got.toString(), due[n]);
        }
        for (int what : new int[] {-1, 7, 8, 9, 13, 18, Integer.MAX_VALUE, Integer.MIN_VALUE}) {
            Check.due("drawn, what " + what, x.drawn(0, 7, 1, what), -1);
        }
    }
}
