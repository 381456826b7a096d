import java.util.function.IntPredicate;
import java.util.function.Supplier;

/**
 * Promises 5 to 36 at the edges of their arguments: each argument goes from far below its least to
 * far above its greatest, and is refused where, and only where, the document says so. No object is
 * used for more than 512 calls.
 */
public final class ArgumentEdgesTest {
    private static final int CALLS = 180;
    private static final int[] FAR = {1 << 16, (1 << 16) + 1, 1 << 24, (1 << 30) - 1, 1 << 30, Integer.MAX_VALUE,
        Integer.MAX_VALUE - 1, Integer.MAX_VALUE - 19, -1000, -(1 << 16), -(1 << 30), Integer.MIN_VALUE,
        Integer.MIN_VALUE + 1, Integer.MIN_VALUE + 20, Integer.MIN_VALUE + 100};

    private static final String ROOMS = "room 1 0;room 9 9;room 3 4;room 4 5;";
    private static final String[] FULL = {
        ROOMS + Check.times(7, "lady 0 5 6 40 0;") + "lady 3 5 11 40 0;" + "proper 1 1;proper 2 2;proper 3 3;"
            + "proper 4 4;proper 5 5;proper 40 30;",
        Check.times(20, "tie 7 1;loosen 7 1;"),
        "mark 29 30 31 29 30 31 29 30 31 29 30 31 29 30 31 10;",
        Check.times(19, "stood 0 1;") + "stood 0 16;" + Check.times(20, "shot 0 30 stood;"),
        Check.times(29, "owes 0 1 2;") + "owes 7 6 99;",
        Check.times(10, "maid 0 30;"),
    };
    private static final String[] LESS = {
        "room 1 0;lady 0 5 6 40 0;", "toast;toast;open 0;toast;", "mark 10;", "stood 0 2;shot 0 30 stood;",
        "owes 0 1 2;", "",
    };

    private interface Call {
        long answer(GlassLaces x, int argument);
    }

    public static void main(String[] args) {
        theirNumbers();
        courts();
        balls();
        forecasts();
        winds();
        sights();
        ledgers();
        shifts();
        standing();
        all();
        Check.finish();
    }

    /** As many of each sort as is said, the first one full; the latest FAULT is 2 at 5. */
    private static GlassLaces told(int many) {
        GlassLaces x = new GlassLaces();
        for (int k = 0; k < many; k++) {
            for (int sort = 0; sort < 6; sort++) {
                Check.due("text of sort " + sort, Check.read(x, sort, (k == 0 ? FULL : LESS)[sort]), k);
            }
        }
        Check.due("text with a FAULT", Check.read(x, Check.SHIFTS, "maid 99 0;"), many == 2 ? -2 : -1);
        return x;
    }

    private static void sweep(String call, long refused, IntPredicate can, Call with) {
        sweep(() -> told(2), call, refused, can, with);
    }

    private static void sweep(Supplier<GlassLaces> object, String call, long refused, IntPredicate can, Call with) {
        GlassLaces x = object.get();
        int calls = 0;
        for (int k = -320 - FAR.length; k <= 720; k++) {
            int argument = k < -320 ? FAR[-321 - k] : k;
            if (++calls > CALLS) {
                x = object.get();
                calls = 1;
            }
            Check.due(call + " with " + argument + " is refused", with.answer(x, argument) == refused,
                    !can.test(argument));
        }
    }

    /** A call of the one that has this number: there are 0, 1, 2 of its sort. */
    private static void numbered(String call, long refused, Call with) {
        for (int many = 0; many <= 2; many++) {
            int most = many;
            sweep(() -> told(most), call + " of " + most, refused, k -> k >= 0 && k < most, with);
        }
    }

    private static IntPredicate to(int least, int greatest) {
        return k -> k >= least && k <= greatest;
    }

    private static void theirNumbers() {
        numbered("court(#, 0)", -1, (x, k) -> x.court(k, 0));
        numbered("lady(#, 0, 0)", -1, (x, k) -> x.lady(k, 0, 0));
        numbered("under(#, 0, 5, 30)", -1, (x, k) -> x.under(k, 0, 5, 30));
        numbered("deed(#, NONE, 0)", -2, (x, k) -> x.deed(k, -1, 0));
        numbered("deed(#, 0, 0)", -2, (x, k) -> x.deed(k, 0, 0));
        numbered("stop(#, 0)", -1, (x, k) -> x.stop(k, 0));
        numbered("stop(0, #)", -1, (x, k) -> x.stop(0, k));
        numbered("state(#, 0, 0, 0)", -100, (x, k) -> x.state(k, 0, 0, 0));
        numbered("state(0, #, 0, 0)", -100, (x, k) -> x.state(0, k, 0, 0));
        numbered("of(#, 0, 0, 0, 0)", -2, (x, k) -> x.of(k, 0, 0, 0, 0));
        numbered("of(0, #, 0, 0, 0)", -2, (x, k) -> x.of(0, k, 0, 0, 0));
        numbered("mark(#, NONE)", -2, (x, k) -> x.mark(k, -1));
        numbered("mark(#, 0)", -2, (x, k) -> x.mark(k, 0));
        numbered("falls(#, 0, 0)", -1, (x, k) -> x.falls(k, 0, 0));
        numbered("falls(0, #, 0)", -1, (x, k) -> x.falls(0, k, 0));
        numbered("least(#, 0, 0)", -1, (x, k) -> x.least(k, 0, 0, false, false));
        numbered("least(0, #, 0)", -1, (x, k) -> x.least(0, k, 0, true, true));
        numbered("dance(#, 10)", -1, (x, k) -> x.dance(k, 10));
        numbered("reach(#, 30, 0)", -1, (x, k) -> x.reach(k, 30, 0, false, false));
        numbered("reach(#, 30, 0), ENDS, D", -1, (x, k) -> x.reach(k, 30, 0, true, true));
        numbered("drop(#, 0, 0)", -1, (x, k) -> x.drop(k, 0, 0, false));
        numbered("drop(#, 0, 0), D", -1, (x, k) -> x.drop(k, 0, 0, true));
        numbered("worth(#, 0, 0, 0)", -1, (x, k) -> x.worth(k, 0, 0, 0));
        numbered("sight(#, 0)", -1, (x, k) -> x.sight(k, 0));
        numbered("ways(#, 0)", -1, (x, k) -> x.ways(k, 0));
        numbered("ways(0, #)", -1, (x, k) -> x.ways(0, k));
        numbered("may(#, 0, 0, 0)", -1, (x, k) -> x.may(k, 0, 0, 0));
        numbered("may(0, #, 0, 0)", -1, (x, k) -> x.may(0, k, 0, 0));
        numbered("spy(#, 0, 0)", -1, (x, k) -> x.spy(k, 0, 0));
        numbered("spy(0, #, 0)", -1, (x, k) -> x.spy(0, k, 0));
        numbered("pawn(#, NONE, 0)", -2, (x, k) -> x.pawn(k, -1, 0));
        numbered("pawn(#, 0, 0)", -2, (x, k) -> x.pawn(k, 0, 0));
        numbered("net(#, 0)", -10000, (x, k) -> x.net(k, 0));
        numbered("pays(#), PAYS", -1, (x, k) -> x.pays(k, false));
        numbered("pays(#), CHAIN", -1, (x, k) -> x.pays(k, true));
        numbered("maid(#, NONE, 0)", -2, (x, k) -> x.maid(k, -1, 0));
        sweep("maid(#, 0, 0)", -2, k -> k == 0, (x, k) -> x.maid(k, 0, 0));
        sweep("cover(#, 0, 30, 1)", -1, k -> k == 0, (x, k) -> x.cover(k, 0, 30, 1, false));
        sweep("cover(#, 0, 30, 1), GAP", -1, k -> k == 1, (x, k) -> x.cover(k, 0, 30, 1, true));
        numbered("longest(#, 1)", -1, (x, k) -> x.longest(k, 1));
        numbered("drawn(#, 0, 0, 0)", -1, (x, k) -> x.drawn(k, 0, 0, 0));
        numbered("climb(#, 0, 30, 2)", -2, (x, k) -> x.climb(k, 0, 30, 2));
        numbered("calm(#, 0, 0)", -1, (x, k) -> x.calm(k, 0, 0));
        numbered("calm(#, 0, NONE)", -1, (x, k) -> x.calm(k, 0, -1));
    }

    private static void courts() {
        sweep("court(0, #)", -1, k -> to(0, 8).test(k) || to(10, 13).test(k) || to(20, 23).test(k)
                || to(30, 35).test(k) || to(40, 45).test(k) || to(100, 140).test(k), (x, k) -> x.court(0, k));
        sweep("court(1, #)", -1, k -> to(0, 8).test(k) || k == 10 || k == 20 || to(100, 140).test(k),
                (x, k) -> x.court(1, k));
        sweep("lady(0, #, 0)", -1, to(0, 7), (x, k) -> x.lady(0, k, 0));
        sweep("lady(1, #, 0)", -1, k -> k == 0, (x, k) -> x.lady(1, k, 0));
        sweep("lady(0, 7, #)", -1, to(0, 4), (x, k) -> x.lady(0, 7, k));
        sweep("under(0, #, 0, 0)", -1, to(0, 7), (x, k) -> x.under(0, k, 0, 0));
        sweep("under(1, #, 0, 0)", -1, k -> k == 0, (x, k) -> x.under(1, k, 0, 0));
        sweep("under(0, 0, #, 0)", -1, to(0, 30), (x, k) -> x.under(0, 0, k, 0));
        sweep("under(0, 0, 0, #)", -1, to(-9, 60), (x, k) -> x.under(0, 0, 0, k));
        sweep("under(0, 0, 30, #)", -1, to(-9, 60), (x, k) -> x.under(0, 0, 30, k));
    }

    private static void balls() {
        sweep("deed(0, #, 0)", -2, to(-1, 39), (x, k) -> x.deed(0, k, 0));
        sweep("deed(1, #, 0)", -2, to(-1, 3), (x, k) -> x.deed(1, k, 0));
        sweep("deed(0, #, 1)", -2, to(0, 39), (x, k) -> x.deed(0, k, 1));
        sweep("deed(0, 39, #)", -2, to(0, 2), (x, k) -> x.deed(0, 39, k));
        sweep("deed(1, 0, #)", -2, to(0, 2), (x, k) -> x.deed(1, 0, k));
        sweep("deed(0, NONE, #)", -2, k -> k == 0, (x, k) -> x.deed(0, -1, k));
        sweep("state(0, 0, #, 0)", -100, to(0, 40), (x, k) -> x.state(0, 0, k, 0));
        sweep("state(1, 0, #, 0)", -100, k -> k == 0, (x, k) -> x.state(1, 0, k, 0));
        sweep("state(0, 1, #, 0)", -100, to(0, 2), (x, k) -> x.state(0, 1, k, 0));
        sweep("state(0, 0, 0, #)", -100, k -> to(0, 10).test(k) || to(20, 23).test(k), (x, k) -> x.state(0, 0, 0, k));
        sweep("state(1, 1, 2, #)", -100, k -> to(0, 10).test(k) || k == 20, (x, k) -> x.state(1, 1, 2, k));
        sweep("of(0, 0, #, 7, 0)", -2, to(0, 40), (x, k) -> x.of(0, 0, k, 7, 0));
        sweep("of(0, 1, #, 7, 0)", -2, to(0, 2), (x, k) -> x.of(0, 1, k, 7, 0));
        sweep("of(0, 0, 0, #, 0)", -2, to(0, 7), (x, k) -> x.of(0, 0, 0, k, 0));
        sweep("of(1, 0, 0, #, 0)", -2, k -> k == 0, (x, k) -> x.of(1, 0, 0, k, 0));
        sweep("of(0, 0, 40, 7, #)", -2, to(0, 4), (x, k) -> x.of(0, 0, 40, 7, k));
    }

    private static void forecasts() {
        sweep("mark(0, #)", -2, to(-1, 15), (x, k) -> x.mark(0, k));
        sweep("mark(1, #)", -2, to(-1, 0), (x, k) -> x.mark(1, k));
        sweep("falls(0, 0, #)", -1, to(0, 7), (x, k) -> x.falls(0, 0, k));
        sweep("falls(1, 0, #)", -1, k -> k == 0, (x, k) -> x.falls(1, 0, k));
        for (boolean proper : new boolean[] {false, true}) {
            forecasts(proper);
        }
        sweep("dance(0, #)", -1, k -> k == 10 || to(29, 31).test(k), (x, k) -> x.dance(0, k));
        sweep("dance(1, #)", -1, k -> k == 10, (x, k) -> x.dance(1, k));
    }

    /** By the FORECASTS as told nobody can stand at the end; by one told anew all can. */
    private static void forecasts(boolean proper) {
        Supplier<GlassLaces> fair = () -> retold("mark 30 31 30 31 30 31 30 31 30 31 30 31 30 31 30 31;");
        sweep(fair, "laced(#, 0, 0, 0)", -1, to(0, 1), (x, k) -> x.laced(k, 0, 0, proper, 0));
        sweep(fair, "laced(0, #, 0, 0)", -1, k -> k == 0, (x, k) -> x.laced(0, k, 0, proper, 0));
        sweep(fair, "laced(0, 0, #, 0)", -1, to(0, 7), (x, k) -> x.laced(0, 0, k, proper, 0));
        sweep(fair, "laced(1, 0, #, 0)", -1, k -> k == 0, (x, k) -> x.laced(1, 0, k, false, 0));
        sweep(fair, "laced(0, 0, 7, #)", -1, k -> k == 0 || to(10, 25).test(k),
                (x, k) -> x.laced(0, 0, 7, proper, k));
        sweep(() -> retold("mark 30;"), "laced(0, 0, 7, #), of 1", -1, k -> k == 0 || k == 10,
                (x, k) -> x.laced(0, 0, 7, proper, k));
        sweep(() -> retold(""), "laced(0, 0, 7, #), of none", -1, k -> k == 0, (x, k) -> x.laced(0, 0, 7, proper, k));
        sweep("laced(0, 0, 7, #), who can't", -1, k -> false, (x, k) -> x.laced(0, 0, 7, proper, k));
        for (boolean who : new boolean[] {false, true}) {
            sweep(fair, "least(0, 0, #)", -1, to(0, 8), (x, k) -> x.least(0, 0, k, proper, who));
            sweep(fair, "least(1, 0, #)", -1, to(0, 1), (x, k) -> x.least(1, 0, k, false, who));
            sweep("least(0, 0, #), who can't", -1, k -> k == 0, (x, k) -> x.least(0, 0, k, proper, who));
        }
    }

    private static GlassLaces retold(String forecast) {
        GlassLaces x = told(2);
        Check.feed(x, forecast);
        Check.due("FORECAST 0 told anew", x.text(Check.FORECAST, 0), 0);
        return x;
    }

    private static void winds() {
        for (int bits = 0; bits < 4; bits++) {
            boolean ends = bits % 2 == 1;
            boolean under = bits >= 2;
            sweep("reach(0, #, 9)", -1, to(0, 40), (x, k) -> x.reach(0, k, 9, ends, under));
            sweep("reach(0, 30, #)", -1, to(0, 9), (x, k) -> x.reach(0, 30, k, ends, under));
        }
        for (boolean under : new boolean[] {false, true}) {
            sweep("drop(0, #, 9)", -1, to(0, 7), (x, k) -> x.drop(0, k, 9, under));
            sweep("drop(1, #, 9)", -1, k -> k == 0, (x, k) -> x.drop(1, k, 9, under));
            sweep("drop(0, 7, #)", -1, to(0, 9), (x, k) -> x.drop(0, 7, k, under));
        }
        for (int what = 0; what < 3; what++) {
            int w = what;
            sweep("worth(0, #, 99, " + w + ")", -1, to(0, 7), (x, k) -> x.worth(0, k, 99, w));
            sweep("worth(1, #, 99, " + w + ")", -1, k -> k == 0, (x, k) -> x.worth(1, k, 99, w));
            sweep("worth(0, 7, #, " + w + ")", -1, to(0, 99), (x, k) -> x.worth(0, 7, k, w));
        }
        sweep("worth(0, 7, 99, #)", -1, to(0, 2), (x, k) -> x.worth(0, 7, 99, k));
        sweep("drawn(0, 0, #, 0)", -1, to(0, 60), (x, k) -> x.drawn(0, 0, k, 0));
        sweep("drawn(0, #, 60, 0)", -1, k -> true, (x, k) -> x.drawn(0, k, 60, 0));
        sweep("drawn(0, 0, 60, #)", -1, k -> to(0, 6).test(k) || to(10, 17).test(k), (x, k) -> x.drawn(0, 0, 60, k));
        sweep("drawn(1, 0, 60, #)", -1, k -> to(0, 6).test(k) || k == 10, (x, k) -> x.drawn(1, 0, 60, k));
    }

    private static void sights() {
        sweep("sight(0, #)", -1, k -> k == 0 || k == 1
                || (to(100, 299).test(k) || to(400, 599).test(k)) && k % 10 <= 2, (x, k) -> x.sight(0, k));
        sweep("sight(1, #)", -1, k -> k == 0 || k == 1 || to(100, 102).test(k) || to(400, 402).test(k),
                (x, k) -> x.sight(1, k));
        sweep("may(0, 0, #, 0)", -1, to(0, 16), (x, k) -> x.may(0, 0, k, 0));
        sweep("may(0, 0, #, 1)", -1, to(0, 16), (x, k) -> x.may(0, 0, k, 1));
        sweep("may(0, 1, #, 0)", -1, to(0, 2), (x, k) -> x.may(0, 1, k, 0));
        sweep("may(0, 0, 0, #)", -1, to(0, 2), (x, k) -> x.may(0, 0, 0, k));
        sweep("spy(0, 0, #)", -1, to(0, 7), (x, k) -> x.spy(0, 0, k));
        sweep("spy(1, 0, #)", -1, k -> k == 0, (x, k) -> x.spy(1, 0, k));
    }

    private static void ledgers() {
        sweep("pawn(0, #, 0)", -2, to(-1, 29), (x, k) -> x.pawn(0, k, 0));
        sweep("pawn(1, #, 0)", -2, to(-1, 0), (x, k) -> x.pawn(1, k, 0));
        sweep("pawn(0, #, 2)", -2, to(0, 29), (x, k) -> x.pawn(0, k, 2));
        sweep("pawn(0, 29, #)", -2, to(0, 2), (x, k) -> x.pawn(0, 29, k));
        sweep("pawn(0, NONE, #)", -2, k -> k == 0, (x, k) -> x.pawn(0, -1, k));
        sweep("net(0, #)", -10000, to(0, 7), (x, k) -> x.net(0, k));
    }

    private static void shifts() {
        sweep("maid(0, #, 0)", -2, to(-1, 9), (x, k) -> x.maid(0, k, 0));
        sweep("maid(1, #, 0)", -2, k -> k == -1, (x, k) -> x.maid(1, k, 0));
        sweep("maid(0, #, 1)", -2, to(0, 9), (x, k) -> x.maid(0, k, 1));
        sweep("maid(0, 9, #)", -2, to(0, 1), (x, k) -> x.maid(0, 9, k));
        sweep("maid(0, NONE, #)", -2, k -> k == 0, (x, k) -> x.maid(0, -1, k));
        // SHIFTS 1 have no MAID, so that there is a GAP wherever there are such minutes.
        for (int shifts = 0; shifts < 2; shifts++) {
            int s = shifts;
            boolean gap = s == 1;
            sweep("cover(" + s + ", #, 30, 1)", -1, to(0, 30), (x, k) -> x.cover(s, k, 30, 1, gap));
            sweep("cover(" + s + ", #, 7, 1)", -1, to(0, 7), (x, k) -> x.cover(s, k, 7, 1, gap));
            sweep("cover(" + s + ", 0, #, 1)", -1, to(0, 30), (x, k) -> x.cover(s, 0, k, 1, gap));
            sweep("cover(" + s + ", 7, #, 1)", -1, to(7, 30), (x, k) -> x.cover(s, 7, k, 1, gap));
            sweep("cover(" + s + ", 0, 30, #)", -1, to(1, 10), (x, k) -> x.cover(s, 0, 30, k, gap));
            sweep("cover(" + s + ", #, #, 1)", -1, to(0, 30), (x, k) -> x.cover(s, k, k, 1, gap));
            sweep("cover(" + s + ", 0, 30, #), the other", -1, k -> false, (x, k) -> x.cover(s, 0, 30, k, !gap));
            sweep("longest(" + s + ", #)", -1, to(1, 10), (x, k) -> x.longest(s, k));
        }
    }

    private static void standing() {
        sweep("climb(0, #, 30, 0)", -2, to(0, 7), (x, k) -> x.climb(0, k, 30, 0));
        sweep("climb(1, #, 30, 0)", -2, k -> k == 0, (x, k) -> x.climb(1, k, 30, 0));
        sweep("climb(0, 7, 30, #)", -2, to(0, 4), (x, k) -> x.climb(0, 7, 30, k));
        for (int what = 0; what < 5; what++) {
            int w = what;
            sweep("climb(0, 7, #, " + w + ")", -2, to(0, 40), (x, k) -> x.climb(0, 7, k, w));
        }
        sweep("calm(0, #, 0)", -1, to(0, 7), (x, k) -> x.calm(0, k, 0));
        sweep("calm(1, #, NONE)", -1, k -> k == 0, (x, k) -> x.calm(1, k, -1));
        sweep("calm(0, 7, #)", -1, to(-1, 30), (x, k) -> x.calm(0, 7, k));
    }

    private static void all() {
        for (int many = 0; many <= 2; many++) {
            int m = many;
            sweep(() -> told(m), "count(#)", -2, to(0, 5), (x, k) -> x.count(k));
            sweep(() -> told(m), "count(#) less " + m, 0, to(0, 5).negate(), (x, k) -> x.count(k) - m);
        }
        sweep(() -> told(1), "fault(#)", -1, to(0, 1), (x, k) -> x.fault(k));
        sweep("image(#)", 0, to(0, 2), (x, k) -> x.image(k) ? 1 : 0);
        sweep("again(#) of none", 0, k -> false, (x, k) -> x.again(k) ? 1 : 0);
        for (int image = 0; image < 3; image++) {
            int i = image;
            sweep("again(#) of image " + i, 0, k -> k == i, (x, k) -> x.image(i) && x.again(k) ? 1 : 0);
        }
    }
}
