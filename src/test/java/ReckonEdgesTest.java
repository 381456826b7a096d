/** Terms 3 to 6 (promises 14 to 33) at their edges: each bound of a rule, and the next number beyond it. */
public final class ReckonEdgesTest {
    private static final String ROOM = "room 1 0;";

    public static void main(String[] args) {
        falls();
        lacedToTheEnds();
        lacedProperBySlack();
        lacedWhoCant();
        sixteenMinutes();
        least();
        dance();
        endsOfTheScale();
        nineMinutes();
        dropsAtTheEnds();
        worth();
        rowsOfMarks();
        seenAtTheirMinute();
        may();
        spy();
        nets();
        pays();
        chain();
        coverAtTheEnds();
        coverOfTen();
        longest();
        drawnNumbers();
        drawnMinutes();
        climb();
        house();
        free();
        calm();
        longAheadOfShort();
        Check.finish();
    }

    private static GlassLaces forecast(String court, String forecast) {
        return Check.told(Check.COURT, court, Check.FORECAST, forecast);
    }

    /** Lady 0 stands from 20 to 30, lady 1 in ROOM 1 (HEIGHT 9) from 29 to 39. */
    private static void falls() {
        String court = "room 1 0;room 1 9;lady 0 0 10 30 0;lady 1 0 10 30 0;";
        dueFalls(court, "mark 20 30 25;", -1, 0);
        dueFalls(court, "mark 29 30 31;", 2, -1);
        dueFalls(court, "mark 29 19;", 1, 1);
        dueFalls(court, "mark 39 40;", 0, 1);
        dueFalls(court, "mark 0;", 0, 0);
        dueFalls(court, "mark 40;", 0, 0);
        dueFalls(court, "", -1, -1);
        dueFalls(court, "mark 29 29 29 29 29 29 29 29 29 29 29 29 29 29 29 19;", 15, 15);
        dueFalls(court, "mark 29 29 29 29 29 29 29 29 29 29 29 29 29 29 29 29;", -1, -1);
    }

    private static void dueFalls(String court, String forecast, int first, int second) {
        GlassLaces x = forecast(court, forecast);
        Check.due("FALLS of 0 by " + forecast, x.falls(0, 0, 0), first);
        Check.due("FALLS of 1 by " + forecast, x.falls(0, 0, 1), second);
    }

    private static void dueLaced(String court, String forecast, boolean proper, String due) {
        GlassLaces x = forecast(court, forecast);
        StringBuilder got = new StringBuilder().append(x.laced(0, 0, 0, proper, 0));
        for (int k = 0; k < x.mark(0, -1); k++) {
            got.append(' ').append(x.laced(0, 0, 0, proper, 10 + k));
        }
        Check.dueRow("LACED by " + forecast + " in " + court, got.toString(), due);
        Check.due("LACE behind the last minute", x.laced(0, 0, 0, proper, 10 + x.mark(0, -1)), -1);
        Check.due("LACE ahead of the first minute", x.laced(0, 0, 0, proper, 9), -1);
    }

    private static void lacedToTheEnds() {
        String law = "proper 1 30;slack 0;";
        dueLaced(ROOM + "lady 0 0 60 90 0;" + law, "mark 1;", true, "30 30");
        dueLaced(ROOM + "lady 0 30 60 90 0;" + law, "mark 0;", true, "30 0");
        dueLaced(ROOM + "lady 0 30 60 90 0;" + law, "mark 1 0 1;", true, "60 30 0 30");
        dueLaced(ROOM + "lady 0 30 60 90 0;" + law, "mark 1 0 1;", false, "0 30 30 30");
        // From LACE 0 up to 5, of which she can't be rid.
        dueLaced(ROOM + "lady 0 0 60 90 0;proper 0 5;slack 0;", "mark 1 1;", true, "5 5 5");
        // She stands by LACE 0 alone, as she faints, as she bursts.
        dueLaced(ROOM + "lady 0 7 10 90 0;", "mark 20 20;", false, "7 0 0");
        dueLaced(ROOM + "lady 0 7 60 20 0;", "mark 20 20;", false, "7 0 0");
        dueLaced(ROOM + "lady 0 7 10 90 0;", "mark 19;", false, "-1 -1");
        dueLaced(ROOM + "lady 0 7 60 20 0;", "mark 21;", false, "-1 -1");
        // By LACE 30 at her bounds.
        dueLaced(ROOM + "lady 0 30 60 30 0;", "mark 0 1;", false, "1 29 29");
        dueLaced(ROOM + "lady 0 30 60 30 0;", "mark 0;", false, "0 30");
        dueLaced(ROOM + "lady 0 30 20 90 0;", "mark 40 39;", false, "1 29 29");
        // In her own ROOM.
        dueLaced("room 1 0;room 1 9;lady 1 7 10 90 0;", "mark 29 30;", false, "7 0 0");
        dueLaced(ROOM + "lady 0 7 10 90 0;", "", false, "0");
        dueLaced(ROOM + "lady 0 7 10 90 0;", "", true, "0");
    }

    private static void lacedProperBySlack() {
        for (int slack = 0; slack <= 9; slack++) {
            String law = "proper 0 15;slack " + slack + ";";
            int low = 15 - slack;
            int high = 15 + slack;
            dueLaced(ROOM + "lady 0 " + low + " 60 90 0;" + law, "mark 0;", true, "0 " + low);
            dueLaced(ROOM + "lady 0 " + high + " 60 90 0;" + law, "mark 0;", true, "0 " + high);
            dueLaced(ROOM + "lady 0 " + (low - 1) + " 60 90 0;" + law, "mark 0;", true, "1 " + low);
            dueLaced(ROOM + "lady 0 " + (high + 1) + " 60 90 0;" + law, "mark 0;", true, "1 " + high);
        }
        // The LACES end at 0 and 30, wherever the LAW would go.
        dueLaced(ROOM + "lady 0 9 60 90 0;slack 8;", "mark 0;", true, "1 8");
        dueLaced(ROOM + "lady 0 21 60 90 0;proper 0 30;slack 8;", "mark 0;", true, "1 22");
        // The LAW of the minute's own mark.
        dueLaced(ROOM + "lady 0 0 60 90 0;proper 10 9;proper 20 3;slack 1;", "mark 9 10 19 20 40;", true, "12 0 8 8 4 4");
        // She must stand as well: by LACES up to 7, the LAW wants 8 at least.
        dueLaced(ROOM + "lady 0 0 60 27 0;proper 0 10;slack 2;", "mark 20;", true, "-1 -1");
        dueLaced(ROOM + "lady 0 0 60 27 0;proper 0 10;slack 3;", "mark 20;", true, "7 7");
        dueLaced(ROOM + "lady 0 0 60 27 0;proper 0 10;slack 2;", "mark 20;", false, "0 0");
    }

    private static void lacedWhoCant() {
        String court = ROOM + "lady 0 5 10 30 0;";
        dueLaced(court, "mark 20;", false, "5 0");
        dueLaced(court, "mark 19 25;", false, "-1 -1 -1");
        dueLaced(court, "mark 25 19;", false, "-1 -1 -1");
        dueLaced(court, "mark 25 31 25;", false, "-1 -1 -1 -1");
        dueLaced(court, "mark 25 25 25;", false, "0 5 5 5");
        dueLaced(court, "mark 25 24 25;", false, "1 4 4 4");
    }

    private static void sixteenMinutes() {
        String marks = "mark" + Check.times(8, " 1 0") + ";";
        dueLaced(ROOM + "lady 0 0 60 90 0;proper 1 30;slack 0;", marks, true, "480" + Check.times(8, " 30 0"));
        dueLaced(ROOM + "lady 0 0 60 90 0;proper 1 30;slack 9;", marks, true, "201" + Check.times(8, " 21 9"));
        dueLaced(ROOM + "lady 0 5 10 30 0;", "mark" + Check.times(15, " 25") + " 19;", false, "-1" + Check.times(16, " -1"));
        dueLaced(ROOM + "lady 0 5 10 30 0;", "mark" + Check.times(15, " 25") + " 20;", false, "5" + Check.times(16, " 0"));
    }

    private static void least() {
        GlassLaces x = forecast(ROOM + Check.times(8, "lady 0 3 10 90 0;"), "mark 20;");
        for (int n = 0; n <= 8; n++) {
            dueLeast(x, n, 3 * n, (1 << n) - 1);
        }
        dueLeast(x, 9, -1, -1);
        dueLeast(x, -1, -1, -1);
        // Lady 0 can't; 1 and 3 need as many KNOTS.
        x = forecast(ROOM + "lady 0 0 9 90 0;lady 0 2 10 90 0;lady 0 1 10 90 0;lady 0 2 10 90 0;", "mark 20;");
        dueLeast(x, 0, 0, 0);
        dueLeast(x, 1, 1, 4);
        dueLeast(x, 2, 3, 6);
        dueLeast(x, 3, 5, 14);
        dueLeast(x, 4, -1, -1);
        dueLeast(x, 5, -1, -1);
        x = forecast(ROOM + "lady 0 0 9 90 0;", "mark 20;");
        dueLeast(x, 0, 0, 0);
        dueLeast(x, 1, -1, -1);
        x = forecast("", "mark 20;");
        dueLeast(x, 0, 0, 0);
        dueLeast(x, 1, -1, -1);
        x = forecast(ROOM + Check.times(8, "lady 0 30 10 90 0;"), "");
        dueLeast(x, 8, 0, 255);
    }

    private static void dueLeast(GlassLaces x, int n, int knots, int who) {
        Check.due("LEAST of " + n, x.least(0, 0, n, false, false), knots);
        Check.due("LEAST of " + n + ", who", x.least(0, 0, n, false, true), who);
    }

    private static void dance() {
        GlassLaces x = Check.told(Check.FORECAST, "mark 0 40 5 5 0 40 5 5 0 40 5 5 0 40 5 39;", Check.FORECAST, "");
        int[] marks = {0, 40, 5, 39, 1, 38, 4, 6, -1, 41};
        int[] due = {0, 1, 2, 15, -1, -1, -1, -1, -1, -1};
        for (int k = 0; k < marks.length; k++) {
            Check.due("DANCE of " + marks[k], x.dance(0, marks[k]), due[k]);
            Check.due("DANCE of " + marks[k] + " by none", x.dance(1, marks[k]), -1);
        }
    }

    private static void dueReach(GlassLaces x, int court, int mark, int n, boolean ends, long top, long bottom) {
        String call = (ends ? "ENDS of " : "REACH of ") + mark + " in " + n + " of court " + court;
        Check.due(call + ", N", x.reach(court, mark, n, ends, false), top);
        Check.due(call + ", D", x.reach(court, mark, n, ends, true), bottom);
    }

    /** At 0 going down, at 40 going up, it stays. */
    private static void endsOfTheScale() {
        GlassLaces x = Check.told(Check.COURT, "glass 0;wind 1 0 3;", Check.COURT, "glass 40;wind 3 0 1;");
        for (int court = 0; court < 2; court++) {
            int end = 40 * court;
            int next = end == 0 ? 1 : 39;
            dueReach(x, court, end, 0, false, 1, 1);
            dueReach(x, court, end, 1, false, 1, 4);
            dueReach(x, court, next, 1, false, 3, 4);
            dueReach(x, court, end, 2, false, 1, 4);
            dueReach(x, court, next, 2, false, 3, 16);
            dueReach(x, court, next, 2, true, 15, 16);
            dueReach(x, court, end, 9, true, 1, 1);
        }
        x = Check.told(Check.COURT, "glass 0;wind 9 0 0;", Check.COURT, "glass 40;wind 0 0 9;");
        dueReach(x, 0, 0, 9, false, 1, 1);
        dueReach(x, 0, 1, 9, true, 0, 1);
        dueReach(x, 1, 40, 9, false, 1, 1);
        dueReach(x, 1, 39, 9, true, 0, 1);
    }

    private static void nineMinutes() {
        GlassLaces x = Check.told(Check.COURT, "glass 20;wind 9 8 9;", Check.COURT, "glass 9;wind 1 0 0;");
        // 26^9 ways, 9^9 of them straight down or up; none farther.
        for (boolean ends : new boolean[] {false, true}) {
            dueReach(x, 0, 11, 9, ends, 387420489L, 5429503678976L);
            dueReach(x, 0, 29, 9, ends, 387420489L, 5429503678976L);
            dueReach(x, 0, 10, 9, ends, 0, 1);
            dueReach(x, 0, 30, 9, ends, 0, 1);
            dueReach(x, 1, 0, 9, ends, 1, 1);
            dueReach(x, 1, 0, 8, ends, 0, 1);
            dueReach(x, 1, 1, 9, ends, ends ? 1 : 0, 1);
            dueReach(x, 1, 9, 9, ends, ends ? 1 : 0, 1);
        }
    }

    private static void dueDrop(GlassLaces x, int court, int lady, int n, long top, long bottom) {
        String call = "DROP of " + lady + " in " + n + " of court " + court;
        Check.due(call + ", N", x.drop(court, lady, n, false), top);
        Check.due(call + ", D", x.drop(court, lady, n, true), bottom);
    }

    /** Lady 0 falls at 0 alone, 1 at 40 alone, 2 stands at 0 alone, 3 at 40 alone, 4 and 5 always, never. */
    private static void dropsAtTheEnds() {
        String ladies = ROOM + "lady 0 0 29 90 0;lady 0 0 60 39 0;lady 0 0 60 0 0;lady 0 10 0 90 0;"
                + "lady 0 30 0 0 0;lady 0 30 60 90 0;";
        GlassLaces x = Check.told(Check.COURT, ladies + "glass 1;", Check.COURT, ladies + "glass 39;");
        dueDrop(x, 0, 0, 1, 1, 3);
        dueDrop(x, 0, 0, 2, 4, 9);
        dueDrop(x, 0, 1, 9, 0, 1);
        dueDrop(x, 1, 1, 1, 1, 3);
        dueDrop(x, 1, 1, 2, 4, 9);
        dueDrop(x, 1, 0, 9, 0, 1);
        x = Check.told(Check.COURT, ladies + "glass 0;", Check.COURT, ladies + "glass 40;");
        dueDrop(x, 0, 2, 1, 1, 3);
        dueDrop(x, 0, 2, 2, 5, 9);
        dueDrop(x, 1, 3, 1, 1, 3);
        dueDrop(x, 1, 3, 2, 5, 9);
        for (int n = 0; n <= 9; n++) {
            // Minute 0 is none of minutes 1 .. n.
            dueDrop(x, 0, 4, n, n == 0 ? 0 : 1, 1);
            dueDrop(x, 1, 5, n, 0, 1);
        }
        x = Check.told(Check.COURT, ladies + "glass 0;wind 0 0 1;");
        dueDrop(x, 0, 0, 9, 0, 1);
    }

    private static void dueWorth(String court, int pen, int top, int bottom, int lace) {
        GlassLaces x = Check.told(Check.COURT, court);
        Check.due("WORTH by " + pen + " in " + court + ", N", x.worth(0, 0, pen, 0), top);
        Check.due("WORTH by " + pen + " in " + court + ", D", x.worth(0, 0, pen, 1), bottom);
        Check.due("WORTH by " + pen + " in " + court + ", LACE", x.worth(0, 0, pen, 2), lace);
    }

    private static void worth() {
        // She stands by LACE 0 alone, at each of the marks.
        dueWorth(ROOM + "lady 0 3 10 90 0;glass 20;wind 0 1 0;", 99, 0, 1, 0);
        dueWorth(ROOM + "lady 0 3 10 90 0;glass 20;wind 0 1 0;", 4, 0, 1, 0);
        // By LACES up to 1, and up to 30.
        dueWorth(ROOM + "lady 0 3 11 90 0;glass 20;wind 0 1 0;", 99, 0, 1, 1);
        dueWorth(ROOM + "lady 0 30 60 50 0;glass 20;wind 0 1 0;", 99, 0, 1, 30);
        // KNOTS and PEN are as many: of several the least LACE.
        dueWorth(ROOM + "lady 0 3 10 90 0;glass 20;wind 0 1 0;", 3, 0, 1, 0);
        dueWorth(ROOM + "lady 0 3 10 90 0;glass 20;wind 0 1 0;", 2, 0, 1, 3);
        dueWorth(ROOM + "lady 0 30 60 30 0;glass 10;wind 0 1 0;", 99, 0, 1, 20);
        dueWorth(ROOM + "lady 0 30 60 90 0;", 99, 0, 1, 30);
        dueWorth(ROOM + "lady 0 0 0 0 0;glass 20;", 99, 0, 1, 0);
        // 40 goes up to 40, 0 goes down to 0; she stands at 40, at 0, by what she has.
        dueWorth(ROOM + "lady 0 5 60 45 0;glass 40;wind 0 0 9;", 99, 0, 1, 5);
        dueWorth(ROOM + "lady 0 0 30 90 0;glass 0;wind 9 0 0;", 99, 0, 1, 0);
        // Half the time she needs 20 KNOTS: known, 10 to be expected; unknown, 20 or half of PEN.
        String half = ROOM + "lady 0 20 60 39 0;glass 20;wind 1 0 1;";
        dueWorth(half, 0, 0, 1, 20);
        dueWorth(half, 1, 0, 1, 20);
        dueWorth(half, 2, 0, 1, 20);
        dueWorth(half, 4, 1, 1, 18);
        dueWorth(half, 99, 1, 1, 18);
        // Weights of 27 in all, in lowest terms.
        dueWorth(ROOM + "lady 0 20 60 40 0;glass 20;wind 9 9 9;", 99, 2, 3, 19);
        dueWorth(ROOM + "lady 0 20 60 40 0;glass 20;wind 9 8 9;", 99, 17, 26, 19);
        dueWorth(ROOM + "lady 0 20 60 40 0;glass 20;wind 9 8 9;", 1, 0, 1, 20);
    }

    private static void dueWays(String court, String sight, long due) {
        GlassLaces x = Check.told(Check.COURT, court, Check.SIGHT, sight);
        Check.due("ways of " + sight + " in " + court, x.ways(0, 0), due);
    }

    /** Lady 0 always stands, lady 1 always falls. */
    private static void rowsOfMarks() {
        String ladies = ROOM + "lady 0 0 60 90 0;lady 0 30 0 0 0;";
        int power = 1;
        for (int minute = 1; minute <= 16; minute++) {
            power *= 3;
            dueWays(ladies + "glass 20;", "stood 0 " + minute + ";", power);
            dueWays(ladies + "glass 16;", "fell 1 " + minute + ";", power);
            dueWays(ladies + "glass 15;", "fell 1 " + minute + ";", minute == 16 ? power - 1 : power);
            dueWays(ladies + "glass 24;", "fell 1 " + minute + ";", power);
            dueWays(ladies + "glass 25;", "fell 1 " + minute + ";", minute == 16 ? power - 1 : power);
            dueWays(ladies + "glass 20;", "stood 0 " + minute + ";fell 0 " + minute + ";", 0);
        }
        long[] fromTheEnd = {1, 2, 5, 13, 35, 96};
        for (int minute = 1; minute <= 5; minute++) {
            dueWays(ladies + "glass 0;", "stood 0 " + minute + ";", fromTheEnd[minute]);
            dueWays(ladies + "glass 40;", "stood 0 " + minute + ";", fromTheEnd[minute]);
        }
        // The WIND's weights are none of this, and a minute told of goes on to the last one.
        dueWays(ladies + "glass 20;wind 0 1 0;", "stood 0 2;", 9);
        dueWays(ladies, "", 1);
        dueWays(ladies, "shot 7 1 fell;", 1);
        dueWays(ladies, "stood 0 1;stood 0 3;stood 0 2;", 27);
    }

    private static void seenAtTheirMinute() {
        // She falls above 30; from 29 by minute 2 up to 31.
        String court = ROOM + "lady 0 0 60 30 0;glass 29;";
        dueWays(court, "fell 0 1;", 0);
        dueWays(court, "fell 0 2;", 1);
        dueWays(court, "stood 0 2;", 8);
        dueWays(court, "fell 0 2;stood 0 3;", 1);
        dueWays(court, "stood 0 1;stood 0 2;stood 0 3;", 22);
        // The last SEEN of twenty counts as the first.
        dueWays(court, Check.times(19, "stood 0 1;") + "fell 0 2;", 1);
        dueWays(court, "fell 0 2;" + Check.times(19, "stood 0 1;"), 1);
        // Nobody is SEEN at minute 0, so that the GLASS may be where she falls.
        dueWays(court + "glass 31;", "stood 0 1;", 1);
        GlassLaces x = Check.told(Check.COURT, court, Check.SIGHT, "fell 1 1;", Check.SIGHT, "shot 1 1 fell;");
        Check.due("ways, SEEN one not there", x.ways(0, 0), -1);
        Check.due("ways, shot at one not there", x.ways(0, 1), 1);
        x = Check.told(Check.COURT, "", Check.SIGHT, "", Check.SIGHT, "stood 0 1;");
        Check.due("ways, nobody there", x.ways(0, 0), 1);
        Check.due("ways, the first one not there", x.ways(0, 1), -1);
    }

    private static void dueMay(String court, String sight, int minute, int low, int high) {
        GlassLaces x = Check.told(Check.COURT, court, Check.SIGHT, sight);
        String call = "MAY at " + minute + " by " + sight;
        Check.due(call + ", the least", x.may(0, 0, minute, 0), low);
        Check.due(call + ", the most", x.may(0, 0, minute, 1), high);
        Check.due(call + ", SURE", x.may(0, 0, minute, 2), low == high ? low : -1);
    }

    private static void may() {
        String court = ROOM + "lady 0 0 60 90 0;glass 20;";
        for (int minute = 0; minute <= 16; minute++) {
            dueMay(court, "stood 0 16;", minute, 20 - minute, 20 + minute);
            dueMay(court + "glass 0;", "stood 0 16;", minute, 0, minute);
            dueMay(court + "glass 40;", "stood 0 16;", minute, 40 - minute, 40);
            dueMay(court, "fell 0 16;", minute, -1, -1);
        }
        dueMay(court, "stood 0 16;", 17, -1, -1);
        dueMay(court, "stood 0 16;", -1, -1, -1);
        dueMay(court, "stood 0 1;", 2, -1, -1);
        dueMay(court, "", 0, 20, 20);
        dueMay(court, "", 1, -1, -1);
        dueMay(court, "shot 0 1 fell;", 0, 20, 20);
        dueMay(court, "shot 0 1 fell;", 1, -1, -1);
        dueMay(court, "stood 1 1;", 0, -1, -1);
        // What comes later binds what was: she falls above 30 alone.
        String falls = ROOM + "lady 0 0 60 30 0;glass 29;";
        dueMay(falls, "fell 0 2;", 0, 29, 29);
        dueMay(falls, "fell 0 2;", 1, 30, 30);
        dueMay(falls, "fell 0 2;", 2, 31, 31);
        dueMay(falls, "fell 0 3;", 1, 29, 30);
        dueMay(falls, "fell 0 3;", 2, 30, 31);
        dueMay(falls, "fell 0 3;", 3, 31, 32);
        dueMay(falls, "stood 0 3;fell 0 2;", 3, 30, 30);
    }

    private static void dueSpy(String court, String sight, int due) {
        GlassLaces x = Check.told(Check.COURT, court, Check.SIGHT, sight);
        Check.due("SPY by " + sight + " in " + court, x.spy(0, 0, 0), due);
    }

    private static void spy() {
        int all = Integer.MAX_VALUE;
        String any = ROOM + "lady 0 5 60 90 0;";
        dueSpy(any, "", all);
        dueSpy(any, "shot 1 0 fell;", all);
        dueSpy(any, "fell 0 1;", all);
        dueSpy(any, "shot 0 0 stood;shot 0 60 stood;", all);
        dueSpy(any, "shot 0 0 fell;", 0);
        dueSpy(any, "shot 0 30 stood;shot 0 30 fell;", 0);
        dueSpy(ROOM + "lady 0 5 60 89 0;", "shot 0 60 fell;", 1 << 30);
        dueSpy(ROOM + "lady 0 5 60 89 0;", "shot 0 60 stood;", all - (1 << 30));
        dueSpy(ROOM + "lady 0 5 60 60 0;", "shot 0 60 stood;", 1);
        dueSpy(ROOM + "lady 0 5 60 60 0;", "shot 0 60 fell;", all - 1);
        dueSpy(ROOM + "lady 0 5 30 90 0;", "shot 0 0 stood;", 1);
        dueSpy(ROOM + "lady 0 5 59 90 0;", "shot 0 0 fell;", 1 << 30);
        // Under the PRESSURE itself, whatever her ROOM's HEIGHT.
        dueSpy("room 1 9;lady 0 5 60 60 0;", "shot 0 60 stood;", 1);
        // The twentieth SHOT counts as the first.
        dueSpy(any, Check.times(19, "shot 0 0 stood;") + "shot 0 0 fell;", 0);
        dueSpy(any, "shot 0 0 fell;" + Check.times(19, "shot 0 0 stood;"), 0);
        dueSpy(ROOM + "lady 0 5 60 40 0;", "shot 0 20 stood;shot 0 25 fell;shot 0 22 stood;shot 0 23 fell;", 1 << 18);
    }

    private static void dueLedger(String ledger, int pays, int chain) {
        GlassLaces x = Check.told(Check.LEDGER, ledger);
        Check.due("PAYS of " + ledger, x.pays(0, false), pays);
        Check.due("CHAIN of " + ledger, x.pays(0, true), chain);
    }

    private static void nets() {
        GlassLaces x = Check.told(Check.LEDGER, "", Check.LEDGER, Check.times(29, "owes 7 0 99;") + "owes 0 7 1;");
        for (int lady = 0; lady < 8; lady++) {
            Check.due("NET of " + lady + ", nobody owes", x.net(0, lady), 0);
            Check.due("NET of " + lady, x.net(1, lady), lady == 0 ? 2870 : lady == 7 ? -2870 : 0);
        }
        x = Check.told(Check.LEDGER, "owes 0 1 1;owes 1 0 1;", Check.LEDGER, Check.times(30, "owes 3 4 99;"));
        Check.due("NET of 0", x.net(0, 0), 0);
        Check.due("NET of 1", x.net(0, 1), 0);
        Check.due("NET of 3", x.net(1, 3), -2970);
        Check.due("NET of 4", x.net(1, 4), 2970);
    }

    private static void pays() {
        dueLedger("", 0, 0);
        dueLedger("owes 7 6 1;", 1, 192);
        dueLedger("owes 0 1 5;owes 1 0 5;", 0, 3);
        dueLedger("owes 0 1 5;owes 1 0 4;", 1, 3);
        dueLedger("owes 0 1 5;owes 1 2 5;", 1, 7);
        dueLedger("owes 0 1 99;owes 2 3 98;owes 4 5 97;owes 6 7 96;", 4, 3);
        dueLedger("owes 0 7 1;owes 1 7 2;owes 2 7 4;owes 3 7 8;owes 4 7 16;owes 5 7 32;owes 6 7 64;", 7, 192);
        // NETS of -1 -2 -3 -4 4 3 2 1 go by pairs, of -1 -1 -2 -4 1 1 3 3 not all.
        dueLedger("owes 0 7 1;owes 1 6 2;owes 2 5 3;owes 3 4 4;", 4, 24);
        dueLedger("owes 0 4 1;owes 1 5 1;owes 2 6 2;owes 3 6 1;owes 3 7 3;", 5, 200);
        dueLedger(Check.times(30, "owes 0 1 99;"), 1, 3);
    }

    private static void chain() {
        // The least of several who owe as much; PAWNS that she is owed are none of it.
        dueLedger("owes 7 0 5;owes 3 4 5;owes 5 6 5;", 3, 24);
        dueLedger("owes 7 0 5;owes 3 4 3;owes 3 5 2;", 3, 56);
        dueLedger("owes 7 0 6;owes 3 4 3;owes 3 5 2;", 3, 129);
        dueLedger("owes 0 1 3;owes 1 0 9;owes 2 3 5;", 2, 3);
        // Round about, and on from each.
        dueLedger("owes 0 1 9;owes 1 2 1;owes 2 0 1;", 1, 7);
        dueLedger("owes 0 1 9;owes 1 2 1;owes 2 3 1;owes 3 4 1;owes 4 5 1;owes 5 6 1;owes 6 7 1;", 2, 255);
        dueLedger("owes 6 7 1;owes 5 6 1;owes 4 5 1;owes 3 4 1;owes 2 3 1;owes 1 2 1;owes 0 1 9;", 2, 255);
        dueLedger("owes 1 0 9;owes 2 1 1;", 2, 3);
    }

    private static void dueCover(GlassLaces x, int from, int to, int k, int cover, int gap) {
        String call = from + " .. " + to + " by " + k;
        Check.due("COVER of " + call, x.cover(0, from, to, k, false), cover);
        Check.due("GAP of " + call, x.cover(0, from, to, k, true), gap);
    }

    private static void coverAtTheEnds() {
        GlassLaces x = Check.told(Check.SHIFTS, "maid 0 10;maid 11 30;maid 5 20;");
        dueCover(x, 0, 30, 1, 3, -1);
        dueCover(x, 0, 0, 1, 1, -1);
        dueCover(x, 30, 30, 1, 2, -1);
        dueCover(x, 10, 10, 1, 1, -1);
        dueCover(x, 10, 11, 1, 4, -1);
        dueCover(x, 11, 11, 1, 2, -1);
        dueCover(x, 4, 11, 1, 3, -1);
        dueCover(x, 5, 20, 1, 4, -1);
        dueCover(x, 5, 20, 2, 7, -1);
        dueCover(x, 4, 20, 2, -1, 4);
        dueCover(x, 5, 21, 2, -1, 21);
        dueCover(x, 0, 30, 2, -1, 0);
        dueCover(x, 5, 20, 3, -1, 5);
        dueCover(x, 30, 30, 2, -1, 30);
        dueCover(x, 1, 0, 1, -1, -1);
        dueCover(x, 30, 29, 1, -1, -1);
        x = Check.told(Check.SHIFTS, "maid 1 29;");
        dueCover(x, 1, 29, 1, 1, -1);
        dueCover(x, 0, 29, 1, -1, 0);
        dueCover(x, 1, 30, 1, -1, 30);
        x = Check.told(Check.SHIFTS, "");
        dueCover(x, 7, 9, 1, -1, 7);
    }

    private static void coverOfTen() {
        GlassLaces x = Check.told(Check.SHIFTS, Check.times(9, "maid 0 30;") + "maid 0 15;");
        for (int k = 1; k <= 9; k++) {
            dueCover(x, 0, 30, k, (1 << k) - 1, -1);
        }
        dueCover(x, 0, 30, 10, -1, 16);
        dueCover(x, 0, 15, 10, 1023, -1);
        // Each of the ten is needed; and the last alone does as well as two.
        x = Check.told(Check.SHIFTS, "maid 0 3;maid 4 6;maid 7 9;maid 10 12;maid 13 15;maid 16 18;maid 19 21;"
                + "maid 22 24;maid 25 27;maid 28 30;");
        dueCover(x, 0, 30, 1, 1023, -1);
        dueCover(x, 28, 30, 1, 512, -1);
        x = Check.told(Check.SHIFTS, "maid 0 15;maid 16 30;" + Check.times(7, "maid 0 14;") + "maid 0 30;");
        dueCover(x, 0, 30, 1, 512, -1);
        dueCover(x, 0, 30, 2, 515, -1);
    }

    private static void dueLongest(String shifts, int k, int due) {
        GlassLaces x = Check.told(Check.SHIFTS, shifts);
        Check.due("LONGEST by " + k + " of " + shifts, x.longest(0, k), due);
    }

    private static void longest() {
        dueLongest("", 1, 0);
        dueLongest("maid 0 0;", 1, 1);
        dueLongest("maid 30 30;", 1, 1);
        dueLongest("maid 0 30;", 1, 31);
        dueLongest("maid 0 30;", 2, 0);
        dueLongest("maid 0 10;maid 11 30;", 1, 31);
        dueLongest("maid 0 10;maid 12 30;", 1, 19);
        dueLongest("maid 0 20;maid 22 30;", 1, 21);
        dueLongest("maid 0 20;maid 20 30;", 2, 1);
        dueLongest("maid 0 9;maid 20 30;", 1, 11);
        // More than k are k, too.
        dueLongest("maid 0 30;maid 5 9;", 1, 31);
        for (int k = 1; k <= 10; k++) {
            dueLongest(Check.times(10, "maid 3 8;"), k, 6);
            dueLongest(Check.times(9, "maid 3 8;"), k, k == 10 ? 0 : 6);
        }
    }

    private static int drawnGlass(String court, int seed, int n) {
        return Check.told(Check.COURT, court).drawn(0, seed, n, 0);
    }

    private static void drawnNumbers() {
        // 0 becomes 12345, shifted 0; the next is -740551042 of 32 bits, shifted without sign 54236;
        // then -1492899873, shifted 42756: remainders by 3 are 0, 2, 0.
        Check.due("seed 0, 1 minute", drawnGlass("glass 20;", 0, 1), 19);
        Check.due("seed 0, 2 minutes", drawnGlass("glass 20;", 0, 2), 20);
        Check.due("seed 0, 3 minutes", drawnGlass("glass 20;", 0, 3), 19);
        Check.due("seed 12345, 2 minutes", drawnGlass("glass 20;", 12345, 2), 20);
        // By one weight alone: the remainder by it, down, same, up.
        for (int w = 1; w <= 9; w++) {
            for (int seed : new int[] {0, -1, 77, Integer.MAX_VALUE, Integer.MIN_VALUE}) {
                Check.due("down", drawnGlass("glass 20;wind " + w + " 0 0;", seed, 1), 19);
                Check.due("same", drawnGlass("glass 20;wind 0 " + w + " 0;", seed, 60), 20);
                Check.due("up", drawnGlass("glass 20;wind 0 0 " + w + ";", seed, 1), 21);
                Check.due("down at 0", drawnGlass("glass 0;wind " + w + " 0 0;", seed, 60), 0);
                Check.due("up at 40", drawnGlass("glass 40;wind 0 0 " + w + ";", seed, 60), 40);
            }
        }
        // Each edge between the weights, by seeds that draw a number at it.
        int[][] winds = {{9, 9, 9}, {1, 1, 1}, {2, 3, 4}, {0, 5, 4}, {5, 0, 4}, {5, 4, 0}};
        for (int[] wind : winds) {
            int all = wind[0] + wind[1] + wind[2];
            for (int seed = -300; seed <= 300; seed++) {
                long x = (seed * 1103515245L + 12345L) & 0xFFFFFFFFL;
                long number = (x >> 16) % all;
                int due = number < wind[0] ? 19 : number < wind[0] + wind[1] ? 20 : 21;
                Check.due("seed " + seed, drawnGlass("glass 20;wind " + wind[0] + " " + wind[1] + " " + wind[2] + ";",
                        seed, 1), due);
            }
        }
    }

    private static void drawnMinutes() {
        // No minute: all as told.
        String court = ROOM + "lady 0 30 0 0 0;glass 40;wind 1 0 0;";
        int[] due = {40, 1, 0, 0, 0, 40, 40, -1, -1, -1, 0, -1};
        GlassLaces x = Check.told(Check.COURT, court);
        for (int what = 0; what < due.length; what++) {
            Check.due("DRAWN of no minute, " + what, x.drawn(0, 5, 0, what), due[what]);
        }
        // Down to 0 in 40 minutes, where it stays for 20.
        x = Check.told(Check.COURT, court + "room 1 9;lady 1 0 0 90 40;lady 0 0 60 90 40;lady 0 0 60 90 40;rest 9;");
        int[][] each = {{39, 39, 40}, {1, 1, 40}, {0, 0, 40}, {0, 0, 40}};
        int[] minutes = {1, 39, 40, 60};
        for (int k = 0; k < 4; k++) {
            Check.due("GLASS behind " + minutes[k], x.drawn(0, 5, minutes[k], 0), each[k][0]);
            Check.due("the least mark", x.drawn(0, 5, minutes[k], 5), each[k][1]);
            Check.due("the most", x.drawn(0, 5, minutes[k], 6), each[k][2]);
        }
        Check.due("BURST in the first minute", x.drawn(0, 5, 1, 3), 1);
        // From minute 2 on, at which PRESSURE is 29, in each ninth one.
        Check.due("how often she FAINTED", x.drawn(0, 5, 60, 11), 7);
        Check.due("BURST ones FAINTED never", x.drawn(0, 5, 60, 10), 0);
        Check.due("TALES under PRESSURES below 40", x.drawn(0, 5, 60, 4), 0);
        Check.due("fourth lady", x.drawn(0, 5, 60, 13), 0);
        Check.due("fifth lady", x.drawn(0, 5, 60, 14), -1);
        // TALES at 40 alone, which is the most it goes up to.
        x = Check.told(Check.COURT, ROOM + "lady 0 0 60 90 40;lady 0 0 60 90 40;glass 38;wind 0 0 1;");
        int[] tales = {0, 0, 1, 2};
        for (int n = 0; n < 4; n++) {
            Check.due("TALES behind " + n, x.drawn(0, 5, n, 4), tales[n]);
        }
        Check.due("TALES behind 60", x.drawn(0, 5, 60, 4), 59);
        int[] most = {38, 39, 40, 40};
        for (int n = 0; n < 4; n++) {
            Check.due("the least mark going up", x.drawn(0, 5, n, 5), 38);
            Check.due("the most mark going up", x.drawn(0, 5, n, 6), most[n]);
        }
    }

    private static void climb() {
        // PRESSURES from 10 to 20 let her stand.
        GlassLaces x = Check.told(Check.COURT, ROOM + "lady 0 0 20 20 0;lady 0 0 60 90 0;lady 0 30 0 0 0;"
                + "lady 0 0 30 0 0;");
        for (int mark = 0; mark <= 40; mark++) {
            Check.due("CLIMB at " + mark, x.climb(0, 0, mark, 0), mark < 10 ? -1 : mark - 10);
            Check.due("CLIMB at " + mark + " of who never stands", x.climb(0, 2, mark, 0), -1);
            Check.due("CLIMB at " + mark + " down to 0", x.climb(0, 3, mark, 0), mark);
            Check.due("CLIMB at " + mark + " down to -30", x.climb(0, 1, mark, 0), mark < 10 ? mark + 30 : 40);
        }
        // She stands under her own HEIGHT alone: PRESSURE 30 at 40 is HEIGHT 10.
        x = Check.told(Check.COURT, "room 1 9;lady 0 0 0 30 0;");
        Check.due("CLIMB to 10", x.climb(0, 0, 40, 0), 10);
        Check.due("CLIMB to 0", x.climb(0, 0, 30, 0), 0);
        Check.due("CLIMB to none", x.climb(0, 0, 29, 0), -1);
    }

    private static void house() {
        // PRESSURE 30 alone lets her stand, wherever she is.
        GlassLaces x = Check.told(Check.COURT, "room 1 0;room 1 9;room 9 1;room 1 1;lady 0 0 0 30 0;", Check.COURT, "");
        for (int mark = 0; mark <= 40; mark++) {
            int due = (mark == 30 ? 1 : 0) + (mark == 39 ? 2 : 0) + (mark == 31 ? 12 : 0);
            Check.due("HOUSE at " + mark, x.climb(0, 0, mark, 1), due);
        }
        x = Check.told(Check.COURT, "room 1 0;room 1 9;room 9 1;room 1 1;lady 0 0 60 90 0;lady 0 30 0 0 0;");
        Check.due("HOUSE of all", x.climb(0, 0, 0, 1), 15);
        Check.due("HOUSE of none", x.climb(0, 1, 40, 1), 0);
    }

    private static void dueFree(String court, int mark, int many, int least, int most) {
        GlassLaces x = Check.told(Check.COURT, court);
        Check.due("FREE at " + mark + " in " + court, x.climb(0, 0, mark, 2), many);
        Check.due("the least", x.climb(0, 0, mark, 3), least);
        Check.due("the most", x.climb(0, 0, mark, 4), most);
    }

    private static void free() {
        dueFree(ROOM + "lady 0 7 60 90 0;", 0, 31, 0, 30);
        dueFree(ROOM + "lady 0 7 60 90 0;", 40, 31, 0, 30);
        dueFree(ROOM + "lady 0 7 59 90 0;", 0, 30, 0, 29);
        dueFree(ROOM + "lady 0 7 60 69 0;", 40, 30, 0, 29);
        dueFree(ROOM + "lady 0 7 30 90 0;", 0, 1, 0, 0);
        dueFree(ROOM + "lady 0 7 29 90 0;", 0, 0, -1, -1);
        dueFree(ROOM + "lady 0 7 60 40 0;", 40, 1, 0, 0);
        dueFree(ROOM + "lady 0 7 60 39 0;", 40, 0, -1, -1);
        // In her own ROOM.
        dueFree("room 1 0;room 1 9;lady 1 7 30 90 0;", 9, 1, 0, 0);
        dueFree("room 1 0;room 1 9;lady 1 7 30 90 0;", 8, 0, -1, -1);
    }

    private static void calm() {
        GlassLaces x = Check.told(Check.COURT, "room 1 0;room 1 9;lady 0 0 60 90 0;lady 0 0 60 0 0;lady 0 0 0 90 0;"
                + "lady 0 0 29 39 0;lady 0 0 0 0 0;lady 1 0 60 0 0;lady 0 10 0 90 0;");
        dueCalm(x, 0, 0, 41);
        dueCalm(x, 0, 30, 41);
        dueCalm(x, 1, 0, 1);
        dueCalm(x, 1, 1, 0);
        dueCalm(x, 2, 0, 11);
        dueCalm(x, 2, 9, 2);
        dueCalm(x, 2, 10, 1);
        dueCalm(x, 2, 11, 0);
        // From 1 to 39.
        dueCalm(x, 3, 0, 39);
        dueCalm(x, 4, 0, 0);
        // From mark 0 to 9, PRESSURES -9 to 0.
        dueCalm(x, 5, 0, 10);
        dueCalm(x, 5, 9, 1);
        dueCalm(x, 5, 10, 0);
        dueCalm(x, 6, 10, 1);
        for (int lady = 0; lady < 7; lady++) {
            // A LACE more lets her stand nowhere that one less does not: of several the least.
            Check.due("BEST of " + lady, x.calm(0, lady, -1), 0);
        }
    }

    private static void dueCalm(GlassLaces x, int lady, int lace, int due) {
        Check.due("CALM of " + lady + " by " + lace, x.calm(0, lady, lace), due);
    }

    /** What was reckoned of a long list is no part of the answer of a short one, on one object. */
    private static void longAheadOfShort() {
        String ladies = "lady 0 5 10 30 0;lady 0 6 60 90 0;";
        GlassLaces x = Check.told(Check.COURT, ROOM + ladies + "glass 20;", Check.COURT, ROOM + "glass 39;" + ladies,
                Check.FORECAST, "mark 25 25 25 20;", Check.FORECAST, "mark 25;",
                Check.SIGHT, "stood 1 16;", Check.SIGHT, "stood 1 2;",
                Check.LEDGER, "owes 0 1 1;owes 2 3 2;owes 4 5 3;owes 6 7 4;", Check.LEDGER, "owes 7 0 1;",
                Check.SHIFTS, "maid 0 30;maid 0 30;", Check.SHIFTS, "maid 4 5;");
        for (int round = 0; round < 2; round++) {
            Check.due("LACED by the long one", x.laced(0, 0, 0, false, 0), 5);
            Check.due("LACED by the short one", x.laced(0, 1, 0, false, 0), 0);
            Check.due("LACE by the short one", x.laced(0, 1, 0, false, 10), 5);
            Check.due("LEAST by the long one", x.least(0, 0, 2, false, false), 5);
            Check.due("LEAST by the short one", x.least(0, 1, 2, false, false), 0);
            Check.due("ways by the long one", x.ways(0, 0), 43046721);
            Check.due("ways by the short one", x.ways(0, 1), 9);
            Check.due("ways by the short one from 39", x.ways(1, 1), 8);
            Check.due("MAY by the short one from 39", x.may(1, 1, 2, 1), 40);
            Check.due("MAY by the short one from 20", x.may(0, 1, 2, 0), 18);
            Check.due("REACH from 20", x.reach(0, 20, 0, false, false), 1);
            Check.due("REACH of 20 from 39", x.reach(1, 20, 0, false, false), 0);
            Check.due("PAYS of the long one", x.pays(0, false), 4);
            Check.due("PAYS of the short one", x.pays(1, false), 1);
            Check.due("LONGEST of the long one", x.longest(0, 2), 31);
            Check.due("LONGEST of the short one", x.longest(1, 1), 2);
            Check.due("COVER by the short one", x.cover(1, 4, 5, 1, false), 1);
            Check.due("GAP of the short one", x.cover(1, 4, 6, 1, true), 6);
        }
    }
}
