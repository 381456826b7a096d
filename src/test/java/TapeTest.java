/** Promises 1 to 5 and 34 to 36: a new object, the tape, text, fault, count, image, again. */
public final class TapeTest {
    public static void main(String[] args) {
        newObject();
        feed();
        end();
        text();
        textInPlace();
        image();
        imageHoldsAll();
        Check.due("NONE", GlassLaces.NONE, -1);
        Check.finish();
    }

    private static void newObject() {
        GlassLaces x = new GlassLaces();
        for (int sort = 0; sort < 6; sort++) {
            Check.due("new: count(" + sort + ")", x.count(sort), 0);
        }
        Check.due("count(-1)", x.count(-1), -2);
        Check.due("count(6)", x.count(6), -2);
        Check.due("new: fault(0)", x.fault(0), 0);
        Check.due("new: fault(1)", x.fault(1), -1);
        Check.due("fault(2)", x.fault(2), -1);
        Check.due("fault(-1)", x.fault(-1), -1);
        Check.due("new: end(1)", x.end(1), -1);
        Check.due("new: end(0)", x.end(0), 0);
        Check.due("new: court", x.court(0, 0), -1);
        Check.due("new: deed", x.deed(0, -1, 0), -2);
        Check.due("new: mark", x.mark(0, -1), -2);
        Check.due("new: sight", x.sight(0, 0), -1);
        Check.due("new: pawn", x.pawn(0, -1, 0), -2);
        Check.due("new: maid", x.maid(0, -1, 0), -2);
        for (int k = -1; k < 4; k++) {
            Check.due("new: again(" + k + ")", x.again(k), false);
        }
        Check.due("a new object's tape as a text", x.text(Check.COURT, -1), 0);
    }

    private static void feed() {
        GlassLaces x = new GlassLaces();
        Check.due("feed", x.feed(0x6D616964, 0x20312032, 0x3B6D6169, 0x64203320, 0x343B2020), 20);
        Check.due("text", x.text(Check.SHIFTS, -1), 0);
        Check.due("maids", x.maid(0, -1, 0), 2);
        Check.due("maid 0 from", x.maid(0, 0, 0), 1);
        Check.due("maid 0 to", x.maid(0, 0, 1), 2);
        Check.due("maid 1 from", x.maid(0, 1, 0), 3);
        Check.due("maid 1 to", x.maid(0, 1, 1), 4);
        for (int k = 1; k <= 30; k++) {
            Check.due("feed " + k, x.feed(-1, 0, 0, 0, 0), 20 * k);
        }
        Check.due("feed 31", x.feed(0, 0, 0, 0, 0), -1);
        Check.due("end behind it", x.end(601), -1);
        Check.due("end behind it", x.end(600), 600);
        x.end(581);
        Check.due("feed of 601", x.feed(0, 0, 0, 0, 0), -1);
        x.end(580);
        Check.due("feed of 600", x.feed(0, 0, 0, 0, 0), 600);
        Check.due("bytes above 127", x.text(Check.COURT, -1), -1);
        Check.due("their place", x.fault(1), 0);
    }

    private static void end() {
        GlassLaces x = new GlassLaces();
        x.feed(0x6D616964, 0x20312032, 0x3B6D6169, 0x64203320, 0x343B2020);
        Check.due("end(-1)", x.end(-1), -1);
        Check.due("end(21)", x.end(21), -1);
        Check.due("end(20)", x.end(20), 20);
        Check.due("end(9)", x.end(9), 9);
        Check.due("end(10)", x.end(10), -1);
        Check.due("text", x.text(Check.SHIFTS, -1), 0);
        Check.due("maids", x.maid(0, -1, 0), 1);
        Check.due("end of the taken tape", x.end(1), -1);
        x.feed(0x6D616964, 0x20312032, 0x3B6D6169, 0x64203320, 0x343B2020);
        x.end(8);
        Check.due("feed behind an end", x.feed(0x3B202020, 0x20202020, 0, 0, 0), 28);
        x.end(9);
        Check.due("text behind an end", x.text(Check.SHIFTS, -1), 1);
        Check.due("maids behind an end", x.maid(1, -1, 0), 1);
    }

    private static void text() {
        String[] texts = {"room 1 0;", "minute;", "mark 3;", "fell 0 1;", "owes 0 1 2;", "maid 1 2;"};
        GlassLaces x = new GlassLaces();
        for (int sort = 0; sort < 6; sort++) {
            Check.due("first of " + sort, Check.read(x, sort, texts[sort]), 0);
            Check.due("second of " + sort, Check.read(x, sort, ""), 1);
            Check.due("count of " + sort, x.count(sort), 2);
            Check.due("wrong text of " + sort, Check.read(x, sort, "!"), -2);
            Check.due("none is read", x.fault(0), 0);
            Check.due("third of " + sort, Check.read(x, sort, texts[sort]), -2);
            Check.due("count of " + sort, x.count(sort), 2);
            Check.due("tape behind it", x.end(1), -1);
            Check.feed(x, texts[sort]);
            Check.due("in the place of 2", x.text(sort, 2), -2);
            Check.due("tape behind it", x.end(1), -1);
            Check.feed(x, texts[sort]);
            Check.due("in the place of -2", x.text(sort, -2), -2);
        }
        Check.feed(x, "!");
        Check.due("in the place of 0, wrong", x.text(Check.COURT, 0), -1);
        Check.due("fault(0)", x.fault(0), 1);
        Check.due("fault(1)", x.fault(1), 0);
        Check.feed(x, "!");
        Check.due("text of sort 6", x.text(6, -1), -2);
        Check.due("fault(0) behind it", x.fault(0), 0);
        Check.due("fault(1) behind it", x.fault(1), -1);
        Check.due("tape behind it", x.end(1), -1);
        Check.feed(x, "maid 1 2;");
        Check.due("text of sort -1", x.text(-1, -1), -2);
        Check.due("text of sort -1 in a place", x.text(-1, 0), -2);
    }

    private static void textInPlace() {
        GlassLaces x = Check.told(Check.COURT, "room 1 0;room 2 1;slack 5;", Check.COURT, "room 3 3;");
        Check.feed(x, "room 4 0;wind 0 0 0;");
        Check.due("a FAULT in a place", x.text(Check.COURT, 0), -1);
        Check.due("its fault", x.fault(0), 4);
        Check.due("what stands there", x.court(0, 0), 2);
        Check.due("what stands there", x.court(0, 3), 5);
        Check.feed(x, "room 4 0;");
        Check.due("in a place", x.text(Check.COURT, 0), 0);
        Check.due("fault is gone", x.fault(0), 0);
        Check.due("ROOMS there now", x.court(0, 0), 1);
        Check.due("SIZE there now", x.court(0, 10), 4);
        Check.due("SLACK there now", x.court(0, 3), 2);
        Check.due("the other one", x.court(1, 10), 3);
        Check.due("count", x.count(Check.COURT), 2);
        Check.feed(x, "maid 0 0;");
        Check.due("in no place", x.text(Check.SHIFTS, 0), -2);
        Check.due("count of SHIFTS", x.count(Check.SHIFTS), 0);
    }

    private static void image() {
        GlassLaces x = Check.told(Check.SHIFTS, "maid 1 2;");
        Check.due("image(-1)", x.image(-1), false);
        Check.due("image(3)", x.image(3), false);
        Check.due("image(1)", x.image(1), true);
        Check.due("again(0)", x.again(0), false);
        Check.due("again(2)", x.again(2), false);
        Check.feed(x, "maid 3 4;maid 5 6;");
        x.text(Check.SHIFTS, 0);
        Check.read(x, Check.SHIFTS, "");
        Check.due("image(2)", x.image(2), true);
        Check.due("again(1)", x.again(1), true);
        Check.due("count as image 1 has it", x.count(Check.SHIFTS), 1);
        Check.due("maid as image 1 has it", x.maid(0, 0, 0), 1);
        Check.due("again(2)", x.again(2), true);
        Check.due("count as image 2 has it", x.count(Check.SHIFTS), 2);
        Check.due("maid as image 2 has it", x.maid(0, 1, 0), 5);
        Check.due("again(1) once more", x.again(1), true);
        Check.read(x, Check.SHIFTS, "maid 7 7;");
        Check.due("again(1) a third time", x.again(1), true);
        Check.due("image 1 is untouched", x.count(Check.SHIFTS), 1);
        x.image(1);
        Check.read(x, Check.COURT, "room 1 0;");
        Check.due("image(1) anew", x.image(1), true);
        Check.feed(x, "room 2 0;");
        x.text(Check.COURT, 0);
        x.again(1);
        Check.due("court as image 1 has it now", x.court(0, 10), 1);
    }

    private static void imageHoldsAll() {
        GlassLaces x = Check.told(
                Check.COURT, "room 2 3;lady 0 1 2 3 4;proper 5 6;slack 7;rest 8;glass 9;wind 1 2 3;",
                Check.BALL, "tie 0 1;", Check.FORECAST, "mark 7 8;", Check.SIGHT, "fell 0 3;shot 1 2 fell;",
                Check.LEDGER, "owes 1 2 3;", Check.SHIFTS, "maid 4 5;");
        Check.read(x, Check.COURT, "room 1 1;lady 1 1 1 1 1;");
        x.feed(0x6D616964, 0x20312032, 0x3B6D6169, 0x64203320, 0x343B2020);
        x.end(9);
        String before = all(x);
        x.image(0);
        Check.due("tape", x.end(9), 9);
        for (int sort = 0; sort < 6; sort++) {
            Check.feed(x, "");
            x.text(sort, 0);
            Check.read(x, sort, "");
        }
        x.text(9, 9);
        Check.due("all is as it was", all(x).equals(before), false);
        Check.due("again(0)", x.again(0), true);
        Check.dueRow("all that image 0 has", all(x), before.trim());
        Check.due("tape as image 0 has it", x.end(10), -1);
        Check.due("tape as image 0 has it", x.end(9), 9);
        Check.due("its text", x.text(Check.SHIFTS, 0), 0);
        Check.due("its maid", x.maid(0, 0, 1), 2);
    }

    private static String all(GlassLaces x) {
        StringBuilder all = new StringBuilder();
        for (int sort = 0; sort < 6; sort++) {
            all.append(x.count(sort)).append(' ');
        }
        for (int what = 0; what < 50; what++) {
            all.append(x.court(0, what)).append(' ');
        }
        for (int what = 0; what < 5; what++) {
            all.append(x.lady(0, 0, what)).append(' ');
        }
        for (int what = 0; what < 3; what++) {
            all.append(x.deed(0, 0, what)).append(' ').append(x.pawn(0, 0, what)).append(' ');
            all.append(x.sight(0, 100 + what)).append(' ').append(x.sight(0, 400 + what)).append(' ');
            all.append(x.maid(0, 0, what)).append(' ').append(x.mark(0, what)).append(' ');
        }
        return all.append(x.fault(0)).append(' ').append(x.fault(1)).toString();
    }
}
