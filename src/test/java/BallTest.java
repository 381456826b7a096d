/** Promises 9 to 12: deed, stop, state, of. */
public final class BallTest {
    private static final String BALL = "loosen 1 2;minute;shut 0;sigh 0;glass 27;minute;toast;minute;minute;"
            + "go 0 1;open 0;tie 1 9;";

    public static void main(String[] args) {
        deed();
        stop();
        stateStepByStep();
        bursts();
        sighs();
        airNears();
        rests();
        tales();
        noSuch();
        Check.finish();
    }

    private static void deed() {
        GlassLaces x = Check.told(Check.BALL, "glass 40;open 1;shut 2;sigh 3;tie 4 5;loosen 6 7;go 7 3;toast;minute;");
        int[][] due = {{0, 40, -1}, {1, 1, -1}, {2, 2, -1}, {3, 3, -1}, {4, 4, 5}, {5, 6, 7}, {6, 7, 3},
            {7, -1, -1}, {8, -1, -1}};
        Check.due("deeds", x.deed(0, -1, 0), 9);
        for (int k = 0; k < 9; k++) {
            for (int what = 0; what < 3; what++) {
                Check.due("deed(0, " + k + ", " + what + ")", x.deed(0, k, what), due[k][what]);
            }
        }
        Check.due("deed, what 3", x.deed(0, 0, 3), -2);
        Check.due("deed, what -1", x.deed(0, 0, -1), -2);
        Check.due("deeds, what 1", x.deed(0, -1, 1), -2);
        Check.due("deed 9", x.deed(0, 9, 0), -2);
        Check.due("deed -2", x.deed(0, -2, 0), -2);
        Check.due("deed of ball 1", x.deed(1, 0, 0), -2);
        Check.due("deeds of ball 1", x.deed(1, -1, 0), -2);
        Check.due("deeds of ball -1", x.deed(-1, -1, 0), -2);
    }

    private static void dueStop(String ball, int due) {
        GlassLaces x = Check.told(Check.COURT, CourtTest.COURT, Check.BALL, ball);
        Check.due("STOP of " + ball, x.stop(0, 0), due);
        Check.due("STATE at STOP of " + ball, x.state(0, 0, due, 0) >= 0, true);
        Check.due("STATE behind STOP of " + ball, x.state(0, 0, due + 1, 0), -100);
    }

    private static void stop() {
        dueStop("", 0);
        dueStop(BALL, 12);
        dueStop("toast;open 0;toast;", 1);
        dueStop("shut 0;shut 0;", 1);
        dueStop("shut 0;open 0;open 0;", 2);
        dueStop("shut 1;open 1;shut 1;shut 0;", 4);
        dueStop("shut 2;", 0);
        dueStop("open 3;", 0);
        dueStop("sigh 3;", 0);
        dueStop("sigh 2;", 1);
        dueStop("go 0 2;", 0);
        dueStop("go 3 0;", 0);
        dueStop("go 0 0;", 1);
        dueStop("tie 3 1;", 0);
        dueStop("loosen 3 1;", 0);
        dueStop("loosen 0 6;", 0);
        dueStop("loosen 0 5;", 1);
        dueStop("tie 0 9;tie 0 9;tie 0 8;", 2);
        dueStop("tie 0 9;tie 0 9;tie 0 7;", 3);
        dueStop("glass 20;minute;sigh 0;", 2);
        dueStop("glass 20;minute;go 0 0;", 2);
        dueStop("glass 20;minute;tie 0 1;loosen 0 1;toast;", 5);
        dueStop("glass 40;minute;tie 1 1;", 2);
        dueStop("glass 40;minute;loosen 1 1;", 2);
        dueStop("glass 40;minute;go 1 0;", 2);
        dueStop("glass 40;minute;sigh 1;", 2);
        dueStop("glass 40;minute;sigh 2;", 3);
        GlassLaces x = Check.told(Check.COURT, "", Check.BALL, "minute;toast;glass 3;open 0;");
        Check.due("STOP of an empty court", x.stop(0, 0), 3);
        Check.due("STOP in court 1", x.stop(1, 0), -1);
        Check.due("STOP in court -1", x.stop(-1, 0), -1);
        Check.due("STOP of ball 1", x.stop(0, 1), -1);
    }

    private static void dueState(GlassLaces x, int n, String due) {
        StringBuilder got = new StringBuilder();
        for (int what = 0; what <= 10; what++) {
            got.append(x.state(0, 0, n, what)).append(' ');
        }
        got.append(x.state(0, 0, n, 20)).append(' ').append(x.state(0, 0, n, 21));
        Check.dueRow("STATE " + n, got.toString(), due);
    }

    private static void dueOf(GlassLaces x, int n, int lady, String due) {
        StringBuilder got = new StringBuilder();
        for (int what = 0; what < 5; what++) {
            got.append(x.of(0, 0, n, lady, what)).append(' ');
        }
        Check.dueRow("lady " + lady + " in STATE " + n, got.toString(), due);
    }

    /** MINUTES, GLASS, UP, DOWN, BURST, KNOTS, TALES, IMPROPER, toasts, at the latest, open, PRESSURES. */
    private static void stateStepByStep() {
        GlassLaces x = Check.told(Check.COURT, CourtTest.COURT, Check.BALL, BALL);
        dueState(x, 0, "0 29 7 0 0 0 0 4 0 -1 3 29 25");
        dueState(x, 1, "0 29 7 0 0 2 0 4 0 -1 3 29 25");
        dueState(x, 2, "1 29 7 0 0 2 1 4 0 -1 3 29 25");
        dueState(x, 3, "1 29 7 0 0 2 1 4 0 -1 2 29 25");
        dueState(x, 4, "1 29 7 0 0 2 1 4 0 -1 2 30 25");
        dueState(x, 5, "1 27 7 0 0 2 1 4 0 -1 2 30 23");
        dueState(x, 6, "2 27 3 4 0 2 2 0 0 -1 2 29 23");
        dueState(x, 7, "2 27 3 4 0 2 2 0 1 2 2 29 23");
        dueState(x, 8, "3 27 3 4 0 2 3 0 1 2 2 28 23");
        dueState(x, 9, "4 27 3 4 0 2 3 0 1 2 2 27 23");
        dueState(x, 10, "4 27 3 4 0 2 3 0 1 2 2 27 23");
        dueState(x, 11, "4 27 3 4 0 2 3 0 1 2 3 27 23");
        dueState(x, 12, "4 27 3 4 0 11 3 2 1 2 3 27 23");
        dueOf(x, 0, 1, "0 8 0 0 -1");
        dueOf(x, 5, 1, "0 6 0 0 -1");
        dueOf(x, 12, 1, "0 15 0 0 -1");
        dueOf(x, 9, 0, "0 5 0 0 -1");
        dueOf(x, 10, 0, "1 5 0 0 -1");
        dueOf(x, 5, 2, "1 3 0 0 -1");
        dueOf(x, 6, 2, "1 3 2 1 2");
        dueOf(x, 8, 2, "1 3 1 1 2");
        dueOf(x, 9, 2, "1 3 2 2 4");
    }

    private static void bursts() {
        GlassLaces x = Check.told(Check.COURT, CourtTest.COURT,
                Check.BALL, "glass 40;minute;glass 29;minute;toast;go 2 0;");
        dueState(x, 2, "1 40 4 0 3 0 0 0 0 -1 3 40 36");
        dueState(x, 6, "2 29 4 0 3 0 0 4 1 1 3 29 25");
        dueOf(x, 6, 0, "0 5 0 0 1");
        dueOf(x, 6, 2, "0 3 0 0 -1");
    }

    private static void sighs() {
        GlassLaces x = Check.told(Check.COURT, "room 3 0;room 4 9;lady 0 0 60 90 40;lady 1 0 60 90 40;glass 39;",
                Check.BALL, "sigh 0;shut 0;sigh 0;sigh 0;shut 1;sigh 1;open 0;glass 0;shut 0;sigh 0;");
        int[] first = {39, 39, 39, 40, 40, 40, 40, 39, 0, 0, 1};
        int[] second = {30, 30, 30, 30, 30, 30, 30, 30, 30, 30, 30};
        for (int n = 0; n <= 10; n++) {
            Check.due("PRESSURE of ROOM 0 behind " + n, x.state(0, 0, n, 20), first[n]);
            Check.due("PRESSURE of ROOM 1 behind " + n, x.state(0, 0, n, 21), second[n]);
        }
        x = Check.told(Check.COURT, "room 1 9;lady 0 0 0 0 0;glass 0;", Check.BALL, "");
        Check.due("the least PRESSURE", x.state(0, 0, 0, 20), -9);
        Check.due("PRESSURE of ROOM 1", x.state(0, 0, 0, 21), -100);
        Check.due("PRESSURE of ROOM 4", x.state(0, 0, 0, 24), -100);
    }

    private static void airNears() {
        GlassLaces x = Check.told(Check.COURT, "room 1 0;room 1 1;glass 10;",
                Check.BALL, "shut 0;minute;glass 12;minute;minute;minute;glass 11;minute;minute;shut 1;glass 30;open 0;");
        int[] due = {10, 10, 10, 10, 11, 12, 12, 12, 11, 11, 11, 11, 30};
        for (int n = 0; n <= 12; n++) {
            Check.due("AIR behind " + n, x.state(0, 0, n, 20), due[n]);
        }
        Check.due("AIR of ROOM 1", x.state(0, 0, 12, 21), 10);
    }

    /** REST 1: she is UP as the next minute goes, and may faint in it again. */
    private static void rests() {
        String lady = "room 1 0;lady 0 0 0 90 0;glass 29;";
        String ball = "minute;minute;minute;glass 30;minute;minute;minute;minute;";
        String[] of1 = {"0", "1", "1", "1", "1", "0", "0", "0", "0"};
        String[] of3 = {"0", "3", "2", "1", "1", "0", "0", "0", "0"};
        String[] of4 = {"0", "4", "3", "2", "2", "1", "0", "0", "0"};
        dueRest(Check.told(Check.COURT, lady + "rest 1;", Check.BALL, ball), of1, 3, 3);
        dueRest(Check.told(Check.COURT, lady, Check.BALL, ball), of3, 1, 1);
        dueRest(Check.told(Check.COURT, lady + "rest 4;", Check.BALL, ball), of4, 1, 1);
    }

    private static void dueRest(GlassLaces x, String[] due, int fainted, int last) {
        for (int n = 0; n < due.length; n++) {
            Check.due("REST left behind " + n, x.of(0, 0, n, 0, 2), Integer.parseInt(due[n]));
            Check.due("DOWN behind " + n, x.state(0, 0, n, 3), due[n].equals("0") ? 0 : 1);
            Check.due("UP behind " + n, x.state(0, 0, n, 2), due[n].equals("0") ? 1 : 0);
        }
        Check.due("how often", x.of(0, 0, 8, 0, 3), fainted);
        Check.due("the last MINUTE", x.of(0, 0, 8, 0, 4), last);
    }

    private static void tales() {
        String three = Check.times(3, "lady 0 0 60 90 30;");
        GlassLaces x = Check.told(Check.COURT, "room 1 0;room 1 1;" + three + "lady 0 0 60 90 31;lady 1 0 60 90 29;"
                + "lady 1 0 60 90 30;lady 1 0 60 90 0;",
                Check.BALL, "minute;minute;glass 31;minute;glass 29;minute;go 0 1;minute;");
        int[] due = {0, 4, 8, 8, 17, 17, 17, 17, 17};
        for (int n = 0; n <= 8; n++) {
            Check.due("TALES behind " + n, x.state(0, 0, n, 6), due[n]);
        }
    }

    private static void noSuch() {
        GlassLaces x = Check.told(Check.COURT, CourtTest.COURT, Check.BALL, "toast;open 0;toast;");
        for (int what : new int[] {-1, 11, 19, 22, 24, 100, Integer.MAX_VALUE, Integer.MIN_VALUE}) {
            Check.due("state, what " + what, x.state(0, 0, 0, what), -100);
        }
        for (int n : new int[] {-1, 2, 3, 4, 41, Integer.MIN_VALUE}) {
            Check.due("state behind " + n, x.state(0, 0, n, 0), -100);
            Check.due("of behind " + n, x.of(0, 0, n, 0, 0), -2);
        }
        Check.due("state of court 1", x.state(1, 0, 0, 0), -100);
        Check.due("state of ball 1", x.state(0, 1, 0, 0), -100);
        Check.due("state of ball -1", x.state(0, -1, 0, 0), -100);
        Check.due("of court 1", x.of(1, 0, 0, 0, 0), -2);
        Check.due("of ball 1", x.of(0, 1, 0, 0, 0), -2);
        Check.due("of lady 3", x.of(0, 0, 0, 3, 0), -2);
        Check.due("of lady -1", x.of(0, 0, 0, -1, 0), -2);
        Check.due("of, what 5", x.of(0, 0, 0, 0, 5), -2);
        Check.due("of, what -1", x.of(0, 0, 0, 0, -1), -2);
    }
}
