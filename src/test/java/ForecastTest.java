/** Promises 13 to 17: mark, falls, laced, least, dance. */
public final class ForecastTest {
    public static void main(String[] args) {
        mark();
        falls();
        laced();
        lacedFirstByRows();
        least();
        dance();
        Check.finish();
    }

    private static GlassLaces usual() {
        return Check.told(Check.COURT, CourtTest.COURT, Check.FORECAST, "mark 29 30;mark 27;");
    }

    private static void mark() {
        GlassLaces x = Check.told(Check.FORECAST, "mark 29 30;mark 0;mark 40 7;", Check.FORECAST, "");
        int[] due = {29, 30, 0, 40, 7, -2};
        Check.due("marks", x.mark(0, -1), 5);
        for (int k = 0; k < due.length; k++) {
            Check.due("mark(0, " + k + ")", x.mark(0, k), due[k]);
        }
        Check.due("marks of an empty one", x.mark(1, -1), 0);
        Check.due("mark of an empty one", x.mark(1, 0), -2);
        Check.due("mark -2", x.mark(0, -2), -2);
        Check.due("mark of forecast 2", x.mark(2, 0), -2);
        Check.due("marks of forecast 2", x.mark(2, -1), -2);
        Check.due("marks of forecast -1", x.mark(-1, -1), -2);
    }

    private static void falls() {
        GlassLaces x = usual();
        Check.due("falls of 0", x.falls(0, 0, 0), -1);
        Check.due("falls of 1", x.falls(0, 0, 1), 0);
        Check.due("falls of 2", x.falls(0, 0, 2), 2);
        Check.due("falls of 3", x.falls(0, 0, 3), -1);
        Check.due("falls of -1", x.falls(0, 0, -1), -1);
        Check.due("falls in court 1", x.falls(1, 0, 1), -1);
        Check.due("falls by forecast 1", x.falls(0, 1, 1), -1);
        Check.read(x, Check.FORECAST, "");
        Check.due("falls by an empty one", x.falls(0, 1, 1), -1);
    }

    private static void dueLaced(GlassLaces x, int forecast, int lady, boolean proper, String due) {
        StringBuilder got = new StringBuilder().append(x.laced(0, forecast, lady, proper, 0));
        for (int k = 0; k < x.mark(forecast, -1); k++) {
            got.append(' ').append(x.laced(0, forecast, lady, proper, 10 + k));
        }
        Check.dueRow("LACED of " + lady + (proper ? ", proper" : ""), got.toString(), due);
    }

    private static void laced() {
        GlassLaces x = usual();
        dueLaced(x, 0, 0, false, "0 5 5 5");
        dueLaced(x, 0, 1, false, "3 5 5 5");
        dueLaced(x, 0, 2, false, "1 2 2 2");
        dueLaced(x, 0, 0, true, "0 5 5 5");
        dueLaced(x, 0, 1, true, "3 5 5 5");
        dueLaced(x, 0, 2, true, "-1 -1 -1 -1");
        for (int what : new int[] {-1, 1, 9, 13, 26, Integer.MAX_VALUE, Integer.MIN_VALUE}) {
            Check.due("laced, what " + what, x.laced(0, 0, 0, false, what), -1);
        }
        Check.due("laced of 3", x.laced(0, 0, 3, false, 0), -1);
        Check.due("laced of -1", x.laced(0, 0, -1, false, 0), -1);
        Check.due("laced in court 1", x.laced(1, 0, 0, false, 0), -1);
        Check.due("laced by forecast 1", x.laced(0, 1, 0, false, 0), -1);
        Check.read(x, Check.FORECAST, "");
        dueLaced(x, 1, 1, true, "0");
        Check.due("laced at minute 0 of none", x.laced(0, 1, 1, true, 10), -1);
    }

    /** The LAW alone binds this lady: PROPER is 0 below mark 10, 10 from 10 on, 4 from 20 on. */
    private static void lacedFirstByRows() {
        String court = "room 1 0;lady 0 5 60 90 0;proper 10 10;proper 20 4;slack 1;";
        GlassLaces x = Check.told(Check.COURT, court, Check.FORECAST, "mark 9 10 20 20 10 9;",
                Check.FORECAST, "mark 20 10;");
        dueLaced(x, 0, 0, true, "28 1 9 5 5 9 1");
        dueLaced(x, 0, 0, false, "0 5 5 5 5 5 5");
        dueLaced(x, 1, 0, true, "4 5 9");
        GlassLaces y = Check.told(Check.COURT, court, Check.FORECAST, "mark 10 20;mark 10;");
        dueLaced(y, 0, 0, true, "12 9 5 9");
        GlassLaces z = Check.told(Check.COURT, "room 1 0;lady 0 5 60 90 0;proper 1 9;proper 2 5;slack 4;rest 1;",
                Check.FORECAST, "mark 0 2 1;", Check.FORECAST, "mark 2 0;");
        dueLaced(z, 0, 0, true, "2 4 4 5");
        dueLaced(z, 1, 0, true, "1 4 4");
        GlassLaces w = Check.told(Check.COURT, "room 1 0;lady 0 30 60 90 0;lady 0 29 60 90 0;proper 10 29;"
                + "proper 20 30;slack 0;", Check.FORECAST, "mark 10 20;", Check.FORECAST, "mark 0;");
        dueLaced(w, 0, 0, true, "2 29 30");
        dueLaced(w, 0, 1, true, "1 29 30");
        dueLaced(w, 0, 0, false, "0 30 30");
        dueLaced(w, 1, 0, true, "30 0");
    }

    private static void dueLeast(GlassLaces x, int n, boolean proper, int knots, int who) {
        Check.due("least of " + n + (proper ? ", proper" : ""), x.least(0, 0, n, proper, false), knots);
        Check.due("who of " + n + (proper ? ", proper" : ""), x.least(0, 0, n, proper, true), who);
    }

    private static void least() {
        GlassLaces x = usual();
        dueLeast(x, 0, false, 0, 0);
        dueLeast(x, 1, false, 0, 1);
        dueLeast(x, 2, false, 1, 5);
        dueLeast(x, 3, false, 4, 7);
        dueLeast(x, 4, false, -1, -1);
        dueLeast(x, -1, false, -1, -1);
        dueLeast(x, 0, true, 0, 0);
        dueLeast(x, 1, true, 0, 1);
        dueLeast(x, 2, true, 3, 3);
        dueLeast(x, 3, true, -1, -1);
        Check.due("least in court 1", x.least(1, 0, 0, false, false), -1);
        Check.due("least by forecast 1", x.least(0, 1, 0, false, true), -1);
        x = Check.told(Check.COURT, "room 1 0;lady 0 4 0 90 0;lady 0 2 0 90 0;lady 0 3 0 90 0;lady 0 2 0 90 0;"
                + "lady 0 3 0 90 0;", Check.FORECAST, "mark 30;");
        dueLeast(x, 1, false, 2, 2);
        dueLeast(x, 2, false, 4, 10);
        dueLeast(x, 3, false, 7, 14);
        dueLeast(x, 4, false, 10, 30);
        dueLeast(x, 5, false, 14, 31);
    }

    private static void dance() {
        GlassLaces x = Check.told(Check.FORECAST, "mark 29 30 29 0 40 30;");
        Check.due("dance of 29", x.dance(0, 29), 0);
        Check.due("dance of 30", x.dance(0, 30), 1);
        Check.due("dance of 0", x.dance(0, 0), 3);
        Check.due("dance of 40", x.dance(0, 40), 4);
        Check.due("dance of 28", x.dance(0, 28), -1);
        Check.due("dance of -1", x.dance(0, -1), -1);
        Check.due("dance of 41", x.dance(0, 41), -1);
        Check.due("dance by forecast 1", x.dance(1, 29), -1);
        Check.due("dance by forecast -1", x.dance(-1, 29), -1);
    }
}
