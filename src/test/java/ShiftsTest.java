/** Promises 28 to 30: maid, cover, longest. */
public final class ShiftsTest {
    public static void main(String[] args) {
        maid();
        cover();
        coverLeastNumber();
        gap();
        longest();
        Check.finish();
    }

    private static GlassLaces usual() {
        return Check.told(Check.SHIFTS, "maid 0 9;maid 5 15;maid 10 20;maid 0 20;");
    }

    private static void maid() {
        GlassLaces x = Check.told(Check.SHIFTS, "maid 0 30;maid 7 7;", Check.SHIFTS, "");
        Check.due("maids", x.maid(0, -1, 0), 2);
        Check.due("maid 0 from", x.maid(0, 0, 0), 0);
        Check.due("maid 0 to", x.maid(0, 0, 1), 30);
        Check.due("maid 1 from", x.maid(0, 1, 0), 7);
        Check.due("maid 1 to", x.maid(0, 1, 1), 7);
        Check.due("maids of empty SHIFTS", x.maid(1, -1, 0), 0);
        Check.due("maids, what 1", x.maid(0, -1, 1), -2);
        Check.due("maid, what 2", x.maid(0, 0, 2), -2);
        Check.due("maid, what -1", x.maid(0, 0, -1), -2);
        Check.due("maid 2", x.maid(0, 2, 0), -2);
        Check.due("maid -2", x.maid(0, -2, 0), -2);
        Check.due("maid of shifts 2", x.maid(2, 0, 0), -2);
        Check.due("maids of shifts -1", x.maid(-1, -1, 0), -2);
    }

    private static void dueCover(GlassLaces x, int from, int to, int k, int due) {
        Check.due("COVER of " + from + " .. " + to + " by " + k, x.cover(0, from, to, k, false), due);
    }

    private static void cover() {
        GlassLaces x = usual();
        dueCover(x, 0, 20, 1, 8);
        dueCover(x, 0, 20, 2, 13);
        dueCover(x, 0, 20, 3, -1);
        dueCover(x, 5, 9, 3, 11);
        dueCover(x, 5, 15, 3, 15);
        dueCover(x, 5, 9, 1, 1);
        dueCover(x, 12, 12, 1, 2);
        dueCover(x, 5, 15, 1, 2);
        dueCover(x, 4, 15, 1, 8);
        dueCover(x, 21, 30, 1, -1);
        dueCover(x, 20, 21, 1, -1);
        dueCover(x, 0, 20, 0, -1);
        dueCover(x, 0, 20, 11, -1);
        dueCover(x, 0, 20, 10, -1);
        dueCover(x, 9, 8, 1, -1);
        dueCover(x, -1, 8, 1, -1);
        dueCover(x, 0, 31, 1, -1);
        Check.due("cover by shifts 1", x.cover(1, 0, 1, 1, false), -1);
        Check.due("cover by shifts -1", x.cover(-1, 0, 1, 1, true), -1);
    }

    private static void coverLeastNumber() {
        GlassLaces x = Check.told(Check.SHIFTS, "maid 0 4;maid 5 9;maid 0 3;maid 4 9;maid 0 8;maid 9 9;");
        dueCover(x, 0, 9, 1, 3);
        dueCover(x, 0, 8, 1, 16);
        dueCover(x, 0, 9, 2, 15);
        x = Check.told(Check.SHIFTS, Check.times(10, "maid 0 30;"));
        for (int k = 1; k <= 10; k++) {
            dueCover(x, 0, 30, k, (1 << k) - 1);
        }
        x = Check.told(Check.SHIFTS, "maid 0 9;maid 0 4;maid 4 9;maid 0 2;maid 2 9;");
        dueCover(x, 0, 9, 2, 7);
        dueCover(x, 0, 9, 3, 31);
        x = Check.told(Check.SHIFTS, "");
        dueCover(x, 0, 0, 1, -1);
    }

    private static void dueGap(GlassLaces x, int from, int to, int k, int due) {
        Check.due("GAP of " + from + " .. " + to + " by " + k, x.cover(0, from, to, k, true), due);
    }

    private static void gap() {
        GlassLaces x = usual();
        dueGap(x, 0, 20, 3, 0);
        dueGap(x, 0, 20, 2, -1);
        dueGap(x, 0, 30, 1, 21);
        dueGap(x, 5, 20, 3, 16);
        dueGap(x, 25, 30, 1, 25);
        dueGap(x, 30, 30, 1, 30);
        dueGap(x, 5, 15, 4, 5);
        dueGap(x, 0, 20, 0, -1);
        dueGap(x, 0, 20, 11, -1);
        dueGap(x, 0, 31, 1, -1);
        dueGap(x, -1, 5, 3, -1);
        dueGap(x, 25, 24, 1, -1);
    }

    private static void longest() {
        GlassLaces x = usual();
        Check.due("longest by 1", x.longest(0, 1), 21);
        Check.due("longest by 2", x.longest(0, 2), 21);
        Check.due("longest by 3", x.longest(0, 3), 11);
        Check.due("longest by 4", x.longest(0, 4), 0);
        Check.due("longest by 10", x.longest(0, 10), 0);
        Check.due("longest by 0", x.longest(0, 0), -1);
        Check.due("longest by 11", x.longest(0, 11), -1);
        Check.due("longest of shifts 1", x.longest(1, 1), -1);
        Check.due("longest of shifts -1", x.longest(-1, 1), -1);
        x = Check.told(Check.SHIFTS, "maid 0 3;maid 6 12;maid 14 18;", Check.SHIFTS, "maid 0 30;");
        Check.due("longest with gaps", x.longest(0, 1), 7);
        Check.due("longest of all", x.longest(1, 1), 31);
    }
}
