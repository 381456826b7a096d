/** Terms 2 (promises 6, 8, 10 to 12) at its edges: each bound of a rule, and the next number beyond it. */
public final class RuleEdgesTest {
    private static final String FIRM = "lady 0 0 60 90 0;";

    public static void main(String[] args) {
        burstsAndFaints();
        properAtEachMark();
        atFirst();
        air();
        sigh();
        tieAndLoosen();
        go();
        toast();
        minuteByMinute();
        down();
        burst();
        tales();
        stop();
        improper();
        fortyDeeds();
        Check.finish();
    }

    /** Each lady stands from a least to a greatest PRESSURE, and only there. */
    private static void burstsAndFaints() {
        int[][] ladies = {{0, 0}, {60, 90}, {30, 30}, {0, 90}, {60, 0}, {29, 40}, {59, 61}, {21, 38}};
        StringBuilder court = new StringBuilder("room 1 0;");
        for (int[] lady : ladies) {
            court.append("lady 0 0 ").append(lady[0]).append(' ').append(lady[1]).append(" 0;");
        }
        GlassLaces x = Check.told(Check.COURT, court.toString());
        for (int l = 0; l < ladies.length; l++) {
            for (int lace : new int[] {0, 1, 9, 29, 30}) {
                for (int pressure = -9; pressure <= 60; pressure++) {
                    int due = pressure > ladies[l][1] - lace ? 2 : pressure < lace + 30 - ladies[l][0] ? 1 : 0;
                    Check.due("under(0, " + l + ", " + lace + ", " + pressure + ")", x.under(0, l, lace, pressure), due);
                }
            }
        }
        // Where she would faint as well she bursts.
        Check.due("under(0, 0, 0, 0)", x.under(0, 0, 0, 0), 1);
        Check.due("under(0, 0, 0, 1)", x.under(0, 0, 0, 1), 2);
        Check.due("under(0, 0, 30, 60)", x.under(0, 0, 30, 60), 2);
        Check.due("under(0, 2, 0, 30)", x.under(0, 2, 0, 30), 0);
        Check.due("under(0, 2, 0, 31)", x.under(0, 2, 0, 31), 2);
        Check.due("under(0, 2, 0, 0)", x.under(0, 2, 0, 0), 0);
        Check.due("under(0, 2, 0, -1)", x.under(0, 2, 0, -1), 1);
        Check.due("under(0, 2, 1, 30)", x.under(0, 2, 1, 30), 2);
    }

    private static void properAtEachMark() {
        dueProper("", new int[41]);
        int[] due = new int[41];
        for (int mark = 0; mark <= 40; mark++) {
            due[mark] = mark < 1 ? 0 : mark < 2 ? 30 : mark < 20 ? 0 : mark < 39 ? 7 : mark < 40 ? 8 : 9;
        }
        dueProper("proper 1 30;proper 2 0;proper 20 7;proper 39 8;proper 40 9;", due);
        dueProper("proper 40 9;proper 39 8;proper 20 7;proper 2 0;proper 1 30;", due);
        due[0] = 5;
        dueProper("proper 40 9;proper 1 30;proper 39 8;proper 0 5;proper 20 7;proper 2 0;", due);
    }

    private static void dueProper(String law, int[] due) {
        GlassLaces x = Check.told(Check.COURT, law);
        for (int mark = 0; mark <= 40; mark++) {
            Check.due("PROPER at " + mark + " by " + law, x.court(0, 100 + mark), due[mark]);
        }
        Check.due("PROPER at 41", x.court(0, 141), -1);
        Check.due("PROPER at -1", x.court(0, 99), -1);
    }

    private static void atFirst() {
        String rooms = Check.times(3, "room 1 0;") + "room 9 9;";
        GlassLaces x = Check.told(Check.COURT, rooms + Check.times(8, "lady 3 30 0 0 0;") + "glass 0;",
                Check.BALL, "", Check.COURT, "");
        Check.due("STOP of no DEED", x.stop(0, 0), 0);
        dueState(x, "0 0 255 0 0 0 0 255 0 -1 15 0 0 0 -9");
        for (int l = 0; l < 8; l++) {
            Check.due("ROOM, LACE, REST left", 1000 * x.of(0, 0, 0, l, 0) + 10 * x.of(0, 0, 0, l, 1)
                    + x.of(0, 0, 0, l, 2), 3300);
            Check.due("how often", x.of(0, 0, 0, l, 3), 0);
            Check.due("at which MINUTE", x.of(0, 0, 0, l, 4), -1);
        }
        // In a COURT without ROOMS and LADIES.
        int[] due = {0, 30, 0, 0, 0, 0, 0, 0, 0, -1, 0};
        for (int what = 0; what < due.length; what++) {
            Check.due("STATE of an empty COURT, " + what, x.state(1, 0, 0, what), due[what]);
        }
    }

    private static void dueState(GlassLaces x, String due) {
        StringBuilder got = new StringBuilder();
        for (int what = 0; what < 24; what++) {
            if (what <= 10 || what >= 20) {
                got.append(x.state(0, 0, 0, what)).append(' ');
            }
        }
        Check.dueRow("STATE at first", got.toString(), due);
    }

    /** The answers to a question behind each number of DEEDS, joined by blanks. */
    private static void dueEach(String court, String ball, int what, String due) {
        GlassLaces x = Check.told(Check.COURT, court, Check.BALL, ball);
        StringBuilder got = new StringBuilder();
        for (int n = 0; n <= x.stop(0, 0); n++) {
            got.append(x.state(0, 0, n, what)).append(' ');
        }
        Check.dueRow("what " + what + " by " + ball, got.toString(), due);
        Check.due("STATE behind the last of " + ball, x.state(0, 0, x.stop(0, 0) + 1, what), -100);
    }

    private static void dueEachOf(String court, String ball, int lady, int what, String due) {
        GlassLaces x = Check.told(Check.COURT, court, Check.BALL, ball);
        StringBuilder got = new StringBuilder();
        for (int n = 0; n <= x.stop(0, 0); n++) {
            got.append(x.of(0, 0, n, lady, what)).append(' ');
        }
        Check.dueRow("of " + lady + ", what " + what + " by " + ball, got.toString(), due);
        Check.due("of behind the last of " + ball, x.of(0, 0, x.stop(0, 0) + 1, lady, what), -2);
    }

    private static void air() {
        String two = "room 1 0;room 1 9;glass 20;";
        // All open ROOMS go with the GLASS at once, a shut one keeps what it was.
        dueEach(two, "glass 0;glass 40;glass 40;", 20, "20 0 40 40");
        dueEach(two, "glass 0;glass 40;glass 40;", 21, "11 -9 31 31");
        dueEach(two, "shut 0;glass 0;shut 1;glass 40;open 0;open 1;", 20, "20 20 20 20 20 40 40");
        dueEach(two, "shut 0;glass 0;shut 1;glass 40;open 0;open 1;", 21, "11 11 -9 -9 -9 -9 31");
        dueEach(two, "shut 0;glass 0;shut 1;glass 40;open 0;open 1;", 10, "3 2 2 0 0 1 3");
        // As it is shut anew it has the GLASS of then.
        dueEach(two, "shut 0;glass 22;open 0;shut 0;glass 9;", 20, "20 20 20 22 22 22");
        // By 1 a minute, from below, from above, and not at all where it has come to.
        dueEach(two, "shut 0;minute;glass 22;minute;minute;minute;", 20, "20 20 20 20 21 22 22");
        dueEach(two, "shut 0;minute;glass 18;minute;minute;minute;", 20, "20 20 20 20 19 18 18");
        dueEach(two, "shut 0;glass 0;minute;glass 40;minute;minute;", 20, "20 20 20 19 19 20 21");
        dueEach(two, "shut 0;glass 40;minute;open 0;minute;", 20, "20 20 20 21 40 40");
        dueEach(two, "shut 0;glass 40;minute;open 0;minute;", 1, "20 20 40 40 40 40");
        String four = Check.times(4, "room 1 0;") + "glass 20;";
        for (int r = 0; r < 4; r++) {
            dueEach(four, "shut " + r + ";glass 30;minute;open " + r + ";", 20 + r, "20 20 20 21 30");
            dueEach(four, "shut " + r + ";glass 30;minute;open " + r + ";", 10,
                    "15 # # # 15".replace("#", "" + (15 - (1 << r))));
        }
    }

    private static void sigh() {
        for (int size = 1; size <= 9; size++) {
            String court = "room " + size + " 0;room 1 0;" + FIRM + "glass 20;";
            dueEach(court, "sigh 0;shut 0;sigh 0;sigh 0;", 20, size <= 3 ? "20 20 20 21 22" : "20 20 20 20 20");
        }
        String court = "room 3 0;room 3 0;" + FIRM + "lady 1 0 60 90 0;glass 38;";
        dueEach(court, "shut 0;sigh 0;sigh 0;sigh 0;sigh 0;", 20, "38 38 39 40 40 40");
        // In her own ROOM alone, and in the one that she went to.
        dueEach(court, "shut 0;shut 1;sigh 1;go 1 0;sigh 1;", 20, "38 38 38 38 38 39");
        dueEach(court, "shut 0;shut 1;sigh 1;go 1 0;sigh 1;", 21, "38 38 38 39 39 39");
        // In an open ROOM beside a shut one nothing.
        dueEach(court, "shut 0;sigh 1;", 20, "38 38 38");
        dueEach(court, "shut 0;sigh 1;", 21, "38 38 38");
        // AIR that a sigh made more comes nearer to the GLASS again.
        dueEach(court, "shut 0;sigh 0;minute;minute;", 20, "38 38 39 38 38");
        dueEach(court, "shut 0;sigh 0;open 0;", 20, "38 38 39 38");
    }

    private static void tieAndLoosen() {
        String court = "room 1 0;lady 0 21 60 90 0;";
        dueEachOf(court, "tie 0 9;loosen 0 9;loosen 0 9;loosen 0 9;loosen 0 3;tie 0 1;", 0, 1, "21 30 21 12 3 0 1");
        dueEach(court, "tie 0 9;loosen 0 9;loosen 0 9;loosen 0 9;loosen 0 3;tie 0 1;", 5, "0 9 18 27 36 39 40");
        dueStop(court, "tie 0 9;tie 0 1;", 1);
        dueStop(court, "tie 0 8;tie 0 1;", 2);
        dueStop(court, "tie 0 8;tie 0 2;", 1);
        dueStop(court, "loosen 0 9;loosen 0 9;loosen 0 3;loosen 0 1;", 3);
        dueStop(court, "loosen 0 9;loosen 0 9;loosen 0 4;", 2);
        dueStop("room 1 0;lady 0 30 60 90 0;", "tie 0 1;", 0);
        dueStop("room 1 0;lady 0 0 60 90 0;", "loosen 0 1;", 0);
        dueStop("room 1 0;lady 0 0 60 90 0;", "tie 0 9;tie 0 9;tie 0 9;tie 0 4;", 3);
        // KNOTS of all LADIES together.
        dueEach("room 1 0;" + FIRM + FIRM, "tie 0 9;tie 1 9;loosen 0 1;", 5, "0 9 18 19");
    }

    private static void go() {
        String court = "room 1 0;room 1 9;" + FIRM;
        dueEachOf(court, "go 0 0;go 0 1;go 0 1;go 0 0;", 0, 0, "0 0 1 1 0");
        dueEachOf(court, "shut 1;go 0 1;shut 0;go 0 0;", 0, 0, "0 0 1 1 0");
        dueStop(court, "go 0 2;", 0);
        dueStop(court, "go 1 0;", 0);
        dueStop("room 1 0;" + FIRM, "go 0 0;go 0 1;", 1);
    }

    private static void toast() {
        String court = "room 1 0;" + FIRM + "lady 0 0 0 90 0;glass 29;rest 1;";
        dueEach(court, "toast;minute;toast;glass 30;minute;toast;toast;", 8, "0 1 1 2 2 2 3 4");
        dueEach(court, "toast;minute;toast;glass 30;minute;toast;toast;", 9, "-1 2 2 1 1 1 2 2");
        dueEach("", "toast;toast;", 9, "-1 0 0");
        dueEach("room 1 0;" + Check.times(8, FIRM), "toast;", 9, "-1 8");
    }

    /** She faints at 29 and stands at 30. */
    private static void minuteByMinute() {
        String court = "room 1 0;lady 0 0 0 90 0;";
        dueEach(court, "minute;toast;minute;glass 29;minute;", 0, "0 1 1 2 2 3");
        // The AIR comes nearer first, then she stands or not.
        dueEach(court, "shut 0;glass 29;minute;", 2, "1 1 1 0");
        dueEach(court + "glass 29;", "shut 0;glass 30;minute;", 2, "1 1 1 1");
        dueEach(court + "glass 28;", "shut 0;glass 30;minute;", 2, "1 1 1 0");
        // In an open ROOM, and in none at all but hers.
        dueEach(court + "room 1 0;", "shut 1;glass 29;minute;", 2, "1 1 1 0");
        dueEach(court + "room 1 0;", "glass 29;shut 1;glass 30;minute;", 2, "1 1 1 1 1");
        // Not ahead of the first minute.
        dueEach(court, "glass 0;toast;", 2, "1 1 1");
    }

    private static void down() {
        for (int rest = 1; rest <= 9; rest++) {
            String court = "room 1 0;lady 0 0 0 90 0;rest " + rest + ";";
            String ball = "glass 29;minute;glass 30;" + Check.times(rest, "minute;") + "minute;";
            StringBuilder left = new StringBuilder("0 0 " + rest);
            StringBuilder is = new StringBuilder("0 0 1");
            for (int k = rest; k >= 0; k--) {
                left.append(' ').append(k);
                is.append(k > 0 ? " 1" : " 0");
            }
            dueEachOf(court, ball, 0, 2, left + " 0");
            dueEach(court, ball, 3, is + " 0");
            dueEachOf(court, ball, 0, 3, "0 0" + Check.times(rest + 3, " 1"));
            dueEachOf(court, ball, 0, 4, "-1 -1" + Check.times(rest + 3, " 1"));
        }
        // As she is UP again she may faint in the same minute, anew with all of REST.
        String court = "room 1 0;lady 0 0 0 35 0;rest 2;glass 29;";
        dueEachOf(court, Check.times(6, "minute;"), 0, 2, "0 2 1 2 1 2 1");
        dueEachOf(court, Check.times(6, "minute;"), 0, 3, "0 1 1 2 2 3 3");
        dueEachOf(court, Check.times(6, "minute;"), 0, 4, "-1 1 1 3 3 5 5");
        // She can't burst as long as she is DOWN, but can as she is UP again.
        dueEach(court, "minute;glass 40;minute;minute;", 4, "0 0 0 0 1");
        dueEach(court, "minute;glass 40;minute;minute;", 3, "0 1 1 1 0");
        dueEachOf(court, "minute;glass 40;minute;minute;", 0, 4, "-1 1 1 1 3");
        dueEachOf(court, "minute;glass 40;minute;minute;", 0, 3, "0 1 1 1 1");
        // DOWN she may be laced, but neither sighs nor goes.
        dueStop(court, "minute;tie 0 1;loosen 0 1;sigh 0;", 3);
        dueStop(court, "minute;go 0 0;", 1);
        dueStop(court, "minute;glass 30;minute;go 0 0;", 3);
        dueStop(court, "minute;glass 30;minute;minute;go 0 0;sigh 0;", 6);
    }

    private static void burst() {
        String court = "room 1 0;lady 0 5 30 35 0;rest 1;glass 31;";
        String ball = "minute;glass 30;minute;minute;toast;";
        dueEach(court, ball, 4, "0 1 1 1 1 1");
        dueEach(court, ball, 2, "1 0 0 0 0 0");
        dueEach(court, ball, 3, "0 0 0 0 0 0");
        dueEach(court, ball, 9, "-1 -1 -1 -1 -1 0");
        dueEachOf(court, ball, 0, 2, "0 0 0 0 0 0");
        dueEachOf(court, ball, 0, 3, "0 0 0 0 0 0");
        dueEachOf(court, ball, 0, 4, "-1 1 1 1 1 1");
        dueStop(court, "minute;tie 0 1;", 1);
        dueStop(court, "minute;loosen 0 1;", 1);
        dueStop(court, "minute;sigh 0;", 1);
        dueStop(court, "minute;go 0 0;", 1);
        dueEach(court + "glass 30;", "minute;", 4, "0 0");
    }

    private static void tales() {
        String room = "room 1 0;room 1 5;glass 20;";
        String minutes = "minute;minute;";
        int[] couples = {0, 0, 1, 3, 6, 10, 15, 21, 28};
        for (int many = 0; many <= 8; many++) {
            int c = couples[many];
            dueEach(room + Check.times(many, "lady 0 0 60 90 20;"), minutes, 6, "0 " + c + " " + 2 * c);
            dueEach(room + Check.times(many, "lady 0 0 60 90 21;"), minutes, 6, "0 0 0");
            dueEach(room + Check.times(many, "lady 1 0 60 90 15;"), minutes, 6, "0 " + c + " " + 2 * c);
            dueEach(room + Check.times(many, "lady 1 0 60 90 16;"), minutes, 6, "0 0 0");
        }
        // GOSSIP 0 is above a PRESSURE below 0.
        dueEach("room 1 9;glass 8;lady 0 0 60 90 0;lady 0 0 60 90 0;", "minute;glass 9;minute;", 6, "0 0 0 1");
        // Both of a couple must be of such GOSSIP, in the same ROOM, and UP.
        String one = "lady 0 0 60 90 20;";
        dueEach(room + one + "lady 0 0 60 90 21;", "minute;", 6, "0 0");
        dueEach(room + one + "lady 1 0 60 90 0;", "minute;go 1 0;minute;", 6, "0 0 0 1");
        dueEach(room + one + "lady 0 0 9 90 0;", "minute;", 6, "0 0");
        dueEach(room + one + "lady 0 0 10 90 0;", "minute;", 6, "0 1");
        dueEach(room + one + "lady 0 0 60 19 0;", "minute;", 6, "0 0");
        dueEach(room + one + "lady 0 0 60 20 0;", "minute;", 6, "0 1");
        // Who is UP again tells in that minute.
        dueEach(room + one + "lady 0 0 9 90 0;rest 1;", "minute;glass 21;minute;", 6, "0 0 0 1");
        // In a shut ROOM by its own AIR, as it came nearer.
        dueEach(room + one + one, "shut 0;glass 0;minute;", 6, "0 0 0 0");
        dueEach("room 1 0;glass 19;" + one + one, "shut 0;glass 40;minute;minute;", 6, "0 0 0 1 2");
        dueEach(room + one + one, "shut 0;sigh 0;glass 0;minute;minute;", 6, "0 0 0 0 1 1");
    }

    private static void dueStop(String court, String ball, int due) {
        GlassLaces x = Check.told(Check.COURT, court, Check.BALL, ball);
        Check.due("STOP of " + ball, x.stop(0, 0), due);
        Check.due("STATE at STOP of " + ball, x.state(0, 0, due, 0) >= 0, true);
        Check.due("STATE behind STOP of " + ball, x.state(0, 0, due + 1, 0), -100);
    }

    private static void stop() {
        for (int rooms = 0; rooms <= 4; rooms++) {
            for (int room = 0; room < 4; room++) {
                String court = Check.times(rooms, "room 1 0;") + (rooms > 0 ? FIRM : "");
                dueStop(court, "shut " + room + ";", room < rooms ? 1 : 0);
                dueStop(court, "open " + room + ";", 0);
                dueStop(court, "shut " + room + ";open " + room + ";", room < rooms ? 2 : 0);
                dueStop(court, "shut " + room + ";open " + room + ";open " + room + ";", room < rooms ? 2 : 0);
                dueStop(court, "shut " + room + ";shut " + room + ";", room < rooms ? 1 : 0);
                dueStop(court, "go 0 " + room + ";", room < rooms ? 1 : 0);
            }
        }
        for (int ladies = 0; ladies <= 8; ladies++) {
            for (int lady = 0; lady < 8; lady++) {
                for (String word : new String[] {"sigh #;", "tie # 1;", "loosen # 1;", "go # 0;"}) {
                    String deed = word.replace("#", "" + lady);
                    dueStop("room 1 0;" + Check.times(ladies, "lady 0 1 60 90 0;"), deed, lady < ladies ? 1 : 0);
                }
            }
        }
        // What stands behind the first DEED that can't be does not matter.
        dueStop("room 1 0;", "toast;open 0;shut 0;toast;", 1);
        dueStop("room 1 0;", "glass 0;toast;minute;glass 40;", 4);
    }

    private static void improper() {
        for (int slack = 0; slack <= 9; slack++) {
            for (int lace = 5; lace <= 25; lace++) {
                GlassLaces x = Check.told(Check.COURT, "room 1 0;lady 0 " + lace + " 60 90 0;proper 30 15;slack " + slack
                        + ";", Check.BALL, "");
                boolean isOff = lace < 15 - slack || lace > 15 + slack;
                Check.due("IMPROPER of " + lace + " by " + slack, x.state(0, 0, 0, 7), isOff ? 1 : 0);
            }
        }
        // By the GLASS, not by the AIR of her ROOM; of those alone who are UP.
        String court = "room 1 0;lady 0 9 60 90 0;lady 0 9 18 90 0;lady 0 9 60 29 0;proper 10 9;proper 20 0;glass 19;";
        dueEach(court, "shut 0;glass 20;glass 19;open 0;glass 20;minute;glass 21;minute;", 7, "0 0 7 0 0 7 5 5 1");
        dueEach("room 1 0;lady 0 9 0 90 0;glass 30;", "minute;", 7, "1 0");
        dueEach("room 1 0;lady 0 9 60 30 0;glass 30;", "minute;", 7, "1 0");
    }

    private static void fortyDeeds() {
        GlassLaces x = Check.told(Check.COURT, "room 1 0;" + FIRM, Check.BALL, Check.times(40, "minute;"));
        Check.due("STOP", x.stop(0, 0), 40);
        Check.due("MINUTES behind 40", x.state(0, 0, 40, 0), 40);
        Check.due("MINUTES behind 39", x.state(0, 0, 39, 0), 39);
        Check.due("STATE 41", x.state(0, 0, 41, 0), -100);
        Check.due("of in STATE 40", x.of(0, 0, 40, 0, 4), -1);
        Check.due("of in STATE 41", x.of(0, 0, 41, 0, 4), -2);
        x = Check.told(Check.COURT, "room 1 0;lady 0 0 0 90 0;glass 0;rest 1;", Check.BALL, Check.times(40, "minute;"));
        Check.due("how often", x.of(0, 0, 40, 0, 3), 40);
        Check.due("at which MINUTE", x.of(0, 0, 40, 0, 4), 40);
    }
}
