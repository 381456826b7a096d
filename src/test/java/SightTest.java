/** Promises 21 to 24: sight, ways, may, spy. */
public final class SightTest {
    public static void main(String[] args) {
        sight();
        ways();
        waysOfSome();
        may();
        absent();
        spy();
        Check.finish();
    }

    private static void sight() {
        GlassLaces x = Check.told(Check.SIGHT, "fell 1 2;shot 3 60 stood;stood 4 16;shot 5 0 fell;fell 7 1;");
        int[][] seen = {{1, 2, 1}, {4, 16, 0}, {7, 1, 1}};
        int[][] shots = {{3, 60, 0}, {5, 0, 1}};
        Check.due("SEEN", x.sight(0, 0), 3);
        Check.due("SHOTS", x.sight(0, 1), 2);
        for (int k = 0; k < 20; k++) {
            for (int at = 0; at < 10; at++) {
                Check.due("SEEN " + k, x.sight(0, 10 * k + 100 + at), k < 3 && at < 3 ? seen[k][at] : -1);
                Check.due("SHOT " + k, x.sight(0, 10 * k + 400 + at), k < 2 && at < 3 ? shots[k][at] : -1);
            }
        }
        for (int what : new int[] {-1, 2, 10, 99, 300, 399, 600, Integer.MAX_VALUE, Integer.MIN_VALUE}) {
            Check.due("sight, what " + what, x.sight(0, what), -1);
        }
        Check.due("sight 1", x.sight(1, 0), -1);
        Check.due("sight -1", x.sight(-1, 0), -1);
        x = Check.told(Check.SIGHT, Check.times(19, "fell 0 1;") + "stood 7 9;"
                + Check.times(19, "shot 0 0 fell;") + "shot 6 5 stood;");
        Check.due("the last SEEN", x.sight(0, 290) * 100 + x.sight(0, 291) * 10 + x.sight(0, 292), 790);
        Check.due("the last SHOT", x.sight(0, 590) * 100 + x.sight(0, 591) * 10 + x.sight(0, 592), 650);
    }

    private static void dueWays(String court, String sight, long due) {
        GlassLaces x = Check.told(Check.COURT, court, Check.SIGHT, sight);
        Check.due("ways of " + sight, x.ways(0, 0), due);
    }

    private static void ways() {
        dueWays(CourtTest.COURT, "fell 1 1;stood 2 2;", 8);
        dueWays(CourtTest.COURT, "", 1);
        dueWays(CourtTest.COURT, "shot 0 0 fell;shot 0 0 stood;", 1);
        dueWays(CourtTest.COURT, "stood 1 1;", 0);
        dueWays(CourtTest.COURT, "stood 1 2;", 1);
        dueWays(CourtTest.COURT, "stood 0 1;fell 0 1;", 0);
        dueWays(CourtTest.COURT, "stood 0 4;", 81);
        dueWays(CourtTest.COURT, "stood 0 5;", 242);
        dueWays(CourtTest.COURT, "stood 2 1;stood 2 2;stood 2 3;", 22);
        String steady = "room 1 0;lady 0 0 60 90 0;";
        dueWays(steady + "glass 20;", "stood 0 16;", 43046721);
        dueWays(steady + "glass 0;", "stood 0 1;", 2);
        dueWays(steady + "glass 0;", "stood 0 2;", 5);
        dueWays(steady + "glass 40;wind 0 1 0;", "stood 0 2;", 5);
        GlassLaces x = Check.told(Check.COURT, steady + "glass 20;", Check.COURT, steady + "glass 0;",
                Check.SIGHT, "stood 0 2;", Check.SIGHT, "fell 0 2;");
        for (int k = 0; k < 2; k++) {
            Check.due("ways from 20", x.ways(0, 0), 9);
            Check.due("ways from 0", x.ways(1, 0), 5);
            Check.due("no ways from 20", x.ways(0, 1), 0);
        }
    }

    private static void waysOfSome() {
        GlassLaces x = Check.told(Check.COURT, CourtTest.COURT, Check.SIGHT, "");
        Check.due("ways in court 1", x.ways(1, 0), -1);
        Check.due("ways by sight 1", x.ways(0, 1), -1);
        Check.due("ways by sight -1", x.ways(0, -1), -1);
    }

    private static void dueMay(GlassLaces x, int minute, int low, int high, int sure) {
        Check.due("the least at " + minute, x.may(0, 0, minute, 0), low);
        Check.due("the most at " + minute, x.may(0, 0, minute, 1), high);
        Check.due("SURE at " + minute, x.may(0, 0, minute, 2), sure);
    }

    private static void may() {
        GlassLaces x = Check.told(Check.COURT, CourtTest.COURT, Check.SIGHT, "fell 1 1;stood 2 2;shot 0 25 stood;");
        dueMay(x, 0, 29, 29, 29);
        dueMay(x, 1, 28, 30, -1);
        dueMay(x, 2, 28, 31, -1);
        dueMay(x, 3, -1, -1, -1);
        dueMay(x, -1, -1, -1, -1);
        Check.due("may, what 3", x.may(0, 0, 0, 3), -1);
        Check.due("may, what -1", x.may(0, 0, 0, -1), -1);
        Check.due("may in court 1", x.may(1, 0, 0, 0), -1);
        Check.due("may by sight 1", x.may(0, 1, 0, 0), -1);
        x = Check.told(Check.COURT, CourtTest.COURT, Check.SIGHT, "stood 1 2;");
        dueMay(x, 0, 29, 29, 29);
        dueMay(x, 1, 28, 28, 28);
        dueMay(x, 2, 27, 27, 27);
        x = Check.told(Check.COURT, CourtTest.COURT, Check.SIGHT, "stood 1 3;");
        dueMay(x, 1, 28, 29, -1);
        dueMay(x, 2, 27, 28, -1);
        dueMay(x, 3, 26, 27, -1);
        x = Check.told(Check.COURT, CourtTest.COURT, Check.SIGHT, "");
        dueMay(x, 0, 29, 29, 29);
        dueMay(x, 1, -1, -1, -1);
        x = Check.told(Check.COURT, CourtTest.COURT, Check.SIGHT, "stood 1 1;");
        dueMay(x, 0, -1, -1, -1);
        dueMay(x, 1, -1, -1, -1);
    }

    private static void absent() {
        GlassLaces x = Check.told(Check.COURT, CourtTest.COURT, Check.SIGHT, "stood 0 1;fell 3 1;",
                Check.SIGHT, "stood 0 1;shot 3 0 fell;");
        Check.due("ways with one SEEN who is not there", x.ways(0, 0), -1);
        Check.due("may with one SEEN who is not there", x.may(0, 0, 0, 0), -1);
        Check.feed(x, "fell 3 1;stood 0 1;");
        x.text(Check.SIGHT, 0);
        Check.due("ways with the first SEEN not there", x.ways(0, 0), -1);
        Check.due("ways with one shot at who is not there", x.ways(0, 1), 3);
        Check.due("may with one shot at who is not there", x.may(0, 1, 1, 0), 28);
        Check.due("spy of one who is not there", x.spy(0, 1, 3), -1);
    }

    private static void spy() {
        GlassLaces x = Check.told(Check.COURT, CourtTest.COURT,
                Check.SIGHT, "fell 1 1;stood 2 2;shot 0 25 stood;shot 0 20 fell;shot 7 1 fell;",
                Check.SIGHT, "shot 2 20 fell;shot 2 60 stood;shot 0 35 stood;shot 0 35 fell;shot 1 27 fell;");
        Check.due("spy of 0", x.spy(0, 0, 0), 62);
        Check.due("spy of 1, not shot at", x.spy(0, 0, 1), Integer.MAX_VALUE);
        Check.due("spy of 0, who can't be", x.spy(0, 1, 0), 0);
        Check.due("spy of 1", x.spy(0, 1, 1), Integer.MAX_VALUE - 511);
        Check.due("spy of 2", x.spy(0, 1, 2), 1);
        Check.due("spy of 3", x.spy(0, 0, 3), -1);
        Check.due("spy of -1", x.spy(0, 0, -1), -1);
        Check.due("spy in court 1", x.spy(1, 0, 0), -1);
        Check.due("spy by sight 2", x.spy(0, 2, 0), -1);
    }
}
