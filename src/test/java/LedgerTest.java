/** Promises 25 to 27: pawn, net, pays. */
public final class LedgerTest {
    public static void main(String[] args) {
        pawn();
        net();
        pays();
        chain();
        Check.finish();
    }

    private static void pawn() {
        GlassLaces x = Check.told(Check.LEDGER, "owes 0 1 10;owes 7 2 99;", Check.LEDGER, "");
        int[][] due = {{0, 1, 10}, {7, 2, 99}};
        Check.due("pawns", x.pawn(0, -1, 0), 2);
        for (int k = 0; k < 2; k++) {
            for (int what = 0; what < 3; what++) {
                Check.due("pawn(0, " + k + ", " + what + ")", x.pawn(0, k, what), due[k][what]);
            }
        }
        Check.due("pawns of an empty one", x.pawn(1, -1, 0), 0);
        Check.due("pawns, what 1", x.pawn(0, -1, 1), -2);
        Check.due("pawn, what 3", x.pawn(0, 0, 3), -2);
        Check.due("pawn, what -1", x.pawn(0, 0, -1), -2);
        Check.due("pawn 2", x.pawn(0, 2, 0), -2);
        Check.due("pawn -2", x.pawn(0, -2, 0), -2);
        Check.due("pawn of ledger 2", x.pawn(2, 0, 0), -2);
        Check.due("pawns of ledger -1", x.pawn(-1, -1, 0), -2);
    }

    private static void net() {
        GlassLaces x = Check.told(Check.LEDGER, "owes 0 1 10;owes 1 2 10;owes 2 0 4;owes 3 4 5;",
                Check.LEDGER, Check.times(30, "owes 0 7 99;"));
        int[] due = {-6, 0, 6, -5, 5, 0, 0, 0};
        for (int lady = 0; lady < 8; lady++) {
            Check.due("net of " + lady, x.net(0, lady), due[lady]);
        }
        Check.due("the least net", x.net(1, 0), -2970);
        Check.due("the most net", x.net(1, 7), 2970);
        Check.due("net of 8", x.net(0, 8), -10000);
        Check.due("net of -1", x.net(0, -1), -10000);
        Check.due("net of ledger 2", x.net(2, 0), -10000);
        Check.due("net of ledger -1", x.net(-1, 0), -10000);
    }

    private static void duePays(String ledger, int pays, int chain) {
        GlassLaces x = Check.told(Check.LEDGER, ledger);
        Check.due("PAYS of " + ledger, x.pays(0, false), pays);
        Check.due("CHAIN of " + ledger, x.pays(0, true), chain);
    }

    private static void pays() {
        duePays("", 0, 0);
        duePays("owes 0 1 10;owes 1 2 10;owes 2 0 4;owes 3 4 5;", 2, 7);
        duePays("owes 0 1 10;owes 1 2 10;owes 2 0 10;", 0, 7);
        duePays("owes 0 1 3;owes 2 1 4;owes 3 4 7;", 3, 24);
        duePays("owes 0 1 1;owes 0 2 2;owes 0 3 3;", 3, 15);
        duePays("owes 0 1 5;owes 2 3 5;owes 4 5 5;owes 6 7 5;", 4, 3);
        duePays("owes 0 1 1;owes 2 3 2;owes 4 5 4;owes 6 7 8;owes 0 3 16;owes 2 5 16;owes 4 7 16;", 5, 176);
        duePays("owes 0 1 1;owes 0 2 2;owes 0 3 4;owes 0 4 8;owes 0 5 16;owes 0 6 32;owes 0 7 64;", 7, 255);
        duePays("owes 0 4 3;owes 1 4 5;owes 2 5 9;owes 3 5 1;owes 3 6 7;owes 3 4 1;", 5, 36);
        GlassLaces x = Check.told(Check.LEDGER, "owes 0 1 1;");
        Check.due("pays of ledger 1", x.pays(1, false), -1);
        Check.due("chain of ledger 1", x.pays(1, true), -1);
        Check.due("pays of ledger -1", x.pays(-1, false), -1);
    }

    private static void chain() {
        duePays("owes 0 1 5;owes 1 2 3;owes 1 3 3;", 3, 14);
        duePays("owes 0 1 9;owes 2 3 1;owes 2 3 1;", 2, 3);
        duePays("owes 4 5 9;owes 2 3 9;", 2, 12);
        duePays("owes 6 7 1;owes 5 6 1;owes 4 5 1;owes 3 4 1;owes 2 3 1;owes 1 2 1;owes 0 1 2;", 2, 255);
        duePays("owes 1 0 1;owes 2 1 1;owes 7 6 9;", 2, 192);
    }
}
