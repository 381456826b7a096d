/**
 * What a call leaves as it is: a refused one changes nothing, asking changes nothing, a text with a
 * FAULT changes the tape and the FAULT alone. Promises 2 to 5, 34 to 36 for the most.
 */
public final class RefusedTest {
    private static final int[] WRONG = {-1, -2, -3, 2, 3, 9, 31, 41, 61, 100, 601, Integer.MAX_VALUE, Integer.MIN_VALUE};

    private static final String[] TEXTS = {
        "room 2 3;room 4 5;lady 0 6 7 80 9;lady 1 1 2 3 4;proper 5 6;slack 7;rest 8;glass 9;wind 1 2 3;",
        "glass 30;tie 0 2;minute;toast;", "mark 29 30;mark 31;", "stood 0 3;fell 0 4;shot 1 20 fell;",
        "owes 1 2 3;owes 2 4 5;", "maid 4 9;maid 7 12;",
    };
    private static final String[] OTHERS = {
        "room 9 9;lady 0 30 60 90 40;proper 1 2;slack 0;rest 1;glass 1;wind 3 2 1;", "toast;", "mark 1;",
        "fell 7 16;shot 7 60 stood;", "owes 7 6 99;", "maid 0 30;",
    };

    public static void main(String[] args) {
        feedAndEnd();
        texts();
        textsWithFaults();
        images();
        askingChangesNothing();
        imagesOfEachOther();
        imageOfANewObject();
        theLastOf512Calls();
        Check.finish();
    }

    /** Two of each sort, a FAULT 1 at 8, and "maid 1 2;" on the tape. */
    private static GlassLaces told() {
        GlassLaces x = new GlassLaces();
        for (int sort = 0; sort < 6; sort++) {
            Check.due("text of sort " + sort, Check.read(x, sort, TEXTS[sort]), 0);
            Check.due("text of sort " + sort, Check.read(x, sort, OTHERS[sort]), 1);
        }
        Check.feed(x, "slack 8 slack;");
        Check.due("text with a FAULT", x.text(Check.COURT, 1), -1);
        Check.feed(x, "maid 1 2;");
        return x;
    }

    /** All that is told but the tape, as the calls tell it. */
    private static String all(GlassLaces x) {
        StringBuilder all = new StringBuilder();
        all.append(x.fault(0)).append(' ').append(x.fault(1));
        for (int k = 0; k < 2; k++) {
            all.append('\n');
            for (int what = 0; what < 46; what++) {
                all.append(x.court(k, what)).append(' ');
            }
            for (int what = 0; what < 5; what++) {
                all.append(x.lady(k, 0, what)).append(' ').append(x.lady(k, 1, what)).append(' ');
            }
            for (int n = -1; n < 5; n++) {
                for (int what = 0; what < 3; what++) {
                    all.append(x.deed(k, n, what)).append(' ').append(x.pawn(k, n, what)).append(' ');
                    all.append(x.maid(k, n, what)).append(' ').append(x.sight(k, 100 + 10 * n + what)).append(' ');
                    all.append(x.sight(k, 400 + 10 * n + what)).append(' ');
                }
                all.append(x.mark(k, n)).append(' ');
            }
        }
        for (int sort = 0; sort < 6; sort++) {
            all.append(x.count(sort)).append(' ');
        }
        return all.toString();
    }

    private static void dueAll(GlassLaces x, String when, String due) {
        Check.dueRow("all that is told " + when, all(x), due.trim());
    }

    /** The tape has "maid 1 2;" and nothing else. */
    private static void dueTape(GlassLaces x, String when) {
        Check.due("tape too long " + when, x.end(10), -1);
        Check.due("tape " + when, x.end(9), 9);
        Check.due("its text " + when, x.text(Check.SHIFTS, 0), 0);
        Check.due("its MAIDS " + when, x.maid(0, -1, 0), 1);
        Check.due("its MAID " + when, 10 * x.maid(0, 0, 0) + x.maid(0, 0, 1), 12);
    }

    private static void feedAndEnd() {
        GlassLaces x = told();
        String before = all(x);
        for (int n : new int[] {10, 11, 600, 601, -1, -9, Integer.MAX_VALUE, Integer.MIN_VALUE}) {
            Check.due("end(" + n + ")", x.end(n), -1);
        }
        dueAll(x, "behind refused ends", before);
        dueTape(x, "behind refused ends");
        x = told();
        for (int k = 1; k < 30; k++) {
            Check.due("feed " + k, x.feed(0x20202020, 0x20202020, 0x20202020, 0x20202020, 0x20202020), 9 + 20 * k);
        }
        dueAll(x, "behind feeds", before);
        Check.due("feed beyond 600", x.feed(0x21212121, 0x21212121, 0x21212121, 0x21212121, 0x21212121), -1);
        Check.due("tape too long behind it", x.end(590), -1);
        dueAll(x, "behind a refused feed", before);
        Check.due("text behind a refused feed", x.text(Check.SHIFTS, 0), 0);
        Check.due("its MAIDS", x.maid(0, -1, 0), 1);
    }

    private static void texts() {
        GlassLaces x = told();
        Check.feed(x, "");
        x.text(-1, -1);
        String before = all(x);
        for (int sort = 0; sort < 6; sort++) {
            for (int at : new int[] {-1, 2, -2, Integer.MIN_VALUE}) {
                Check.feed(x, OTHERS[5 - sort]);
                Check.due("text(" + sort + ", " + at + ")", x.text(sort, at), -2);
                Check.due("tape behind it", x.end(1), -1);
            }
        }
        for (int sort : new int[] {-1, 6, Integer.MAX_VALUE, Integer.MIN_VALUE}) {
            Check.feed(x, OTHERS[0]);
            Check.due("text(" + sort + ", 0)", x.text(sort, 0), -2);
            Check.due("tape behind it", x.end(1), -1);
        }
        dueAll(x, "behind refused texts", before);
    }

    private static void textsWithFaults() {
        GlassLaces x = told();
        String before = all(x);
        for (int sort = 0; sort < 6; sort++) {
            for (int at = 0; at < 2; at++) {
                Check.feed(x, OTHERS[sort] + "!");
                Check.due("text(" + sort + ", " + at + ") with a FAULT", x.text(sort, at), -1);
                Check.due("FAULT of it", x.fault(0), 1);
                Check.due("place of it", x.fault(1), OTHERS[sort].length());
                Check.due("tape behind it", x.end(1), -1);
            }
        }
        Check.feed(x, "slack 8 slack;");
        Check.due("text with the first FAULT", x.text(Check.COURT, 0), -1);
        dueAll(x, "behind texts with FAULTS", before);
        GlassLaces y = new GlassLaces();
        for (int sort = 0; sort < 6; sort++) {
            Check.due("text with a FAULT", Check.read(y, sort, TEXTS[sort] + "!"), -1);
            Check.due("count behind it", y.count(sort), 0);
            Check.feed(y, TEXTS[sort]);
            Check.due("text in a place that is not there", y.text(sort, 0), -2);
            Check.due("text behind them", Check.read(y, sort, TEXTS[sort]), 0);
        }
    }

    private static void images() {
        GlassLaces x = told();
        String before = all(x);
        Check.due("image(0)", x.image(0), true);
        for (int k : WRONG) {
            if (k != 2) {
                Check.due("image(" + k + ")", x.image(k), false);
            }
            Check.due("again(" + k + ")", x.again(k), false);
        }
        Check.due("again(1)", x.again(1), false);
        dueAll(x, "behind refused images", before);
        dueTape(x, "behind refused images");
        for (int k : WRONG) {
            if (k != 2) {
                x.image(k);
            }
            x.again(k);
        }
        Check.due("MAIDS are as told behind image 0", x.maid(0, -1, 0), 1);
        Check.due("again(0)", x.again(0), true);
        dueAll(x, "as image 0 has it", before);
        dueTape(x, "as image 0 has it");
    }

    private static void askingChangesNothing() {
        GlassLaces x = told();
        String before = all(x);
        for (int a : new int[] {0, 1, -1, 2, Integer.MAX_VALUE}) {
            askCourts(x, a);
            askOthers(x, a);
        }
        dueAll(x, "behind questions", before);
        dueTape(x, "behind questions");
    }

    private static void askCourts(GlassLaces x, int a) {
        for (int n = -1; n < 5; n++) {
            x.court(a, n);
            x.lady(a, n, n);
            x.under(a, n, n, n);
            x.stop(a, n);
            x.state(a, n, n, n);
            x.of(a, 0, n, n, n);
            x.climb(a, n, n, n);
            x.calm(a, n, n);
            x.drawn(a, n, n, n);
            x.worth(a, n, n, n);
        }
    }

    private static void askOthers(GlassLaces x, int a) {
        for (int n = -1; n < 3; n++) {
            x.falls(a, 0, n);
            x.laced(a, 0, n, true, 0);
            x.least(a, 0, n, false, true);
            x.dance(a, n);
            x.reach(a, n, n, true, false);
            x.drop(a, n, n, true);
            x.ways(a, n);
            x.may(a, 0, n, n);
            x.spy(a, 0, n);
            x.net(a, n);
            x.pays(a, n > 0);
            x.cover(a, n, n, n, n > 0);
            x.longest(a, n);
        }
    }

    /** Three images keep three states; each comes again as often as it is called, and as it was. */
    private static void imagesOfEachOther() {
        GlassLaces x = new GlassLaces();
        for (int k = 0; k < 3; k++) {
            Check.feed(x, "maid " + k + " 9;");
            Check.due("text", x.text(Check.SHIFTS, k == 0 ? -1 : 0), 0);
            Check.feed(x, "maid 1 2;".substring(0, 7 + k));
            Check.due("image(" + k + ")", x.image(k), true);
        }
        for (int k : new int[] {0, 0, 2, 1, 1, 2, 0}) {
            Check.feed(x, "toast;toast;");
            Check.due("again(" + k + ")", x.again(k), true);
            Check.due("MAID of image " + k, x.maid(0, 0, 0), k);
            Check.due("tape of image " + k, x.end(8 + k), -1);
            Check.due("tape of image " + k, x.end(7 + k), 7 + k);
            Check.due("text of its tape", x.text(Check.SHIFTS, -1), k == 2 ? 1 : -1);
            Check.due("place of its FAULT", x.fault(1), k == 2 ? -1 : 7 + k);
        }
        // An image made anew has what is then.
        Check.due("again(1)", x.again(1), true);
        Check.due("image(2) anew", x.image(2), true);
        Check.due("again(0)", x.again(0), true);
        Check.due("MAID of image 0", x.maid(0, 0, 0), 0);
        Check.due("again(2)", x.again(2), true);
        Check.due("MAID of image 2, anew", x.maid(0, 0, 0), 1);
    }

    private static void imageOfANewObject() {
        GlassLaces x = new GlassLaces();
        String before = all(x);
        Check.due("image(2) of a new object", x.image(2), true);
        for (int sort = 0; sort < 6; sort++) {
            Check.read(x, sort, TEXTS[sort]);
            Check.read(x, sort, OTHERS[sort]);
        }
        Check.read(x, Check.COURT, "");
        Check.feed(x, "maid 0 0;");
        Check.due("again(2)", x.again(2), true);
        dueAll(x, "as the image of a new object has it", before);
        Check.due("tape of a new object", x.end(1), -1);
        for (int sort = 0; sort < 6; sort++) {
            Check.feed(x, TEXTS[sort]);
            Check.due("text in place 0 of none", x.text(sort, 0), -2);
            Check.due("text as the first", Check.read(x, sort, TEXTS[sort]), 0);
        }
    }

    /** Calls 1 to 512 are promised; each one of them may be the one that tells. */
    private static void theLastOf512Calls() {
        GlassLaces x = new GlassLaces();
        for (int call = 1; call <= 509; call++) {
            Check.due("call " + call, x.count(Check.SHIFTS), 0);
        }
        Check.due("call 510", x.feed(0x6D616964, 0x20312032, 0x3B202020, 0x20202020, 0x20202020), 20);
        Check.due("call 511", x.text(Check.SHIFTS, -1), 0);
        Check.due("call 512", x.cover(0, 1, 2, 1, false), 1);
        x = new GlassLaces();
        for (int call = 1; call <= 511; call++) {
            Check.due("image, call " + call, x.image(call % 3), true);
        }
        Check.due("again, call 512", x.again(0), true);
    }
}
