/** Promises 4 and 5: texts of all sorts, and their FAULTS with places. A ^ marks the place. */
public final class FaultTest {
    public static void main(String[] args) {
        tokens();
        courts();
        courtsAsAWhole();
        balls();
        forecasts();
        sights();
        ledgers();
        shifts();
        order();
        Check.finish();
    }

    private static void good(int sort, String text) {
        Check.dueFault(sort, text, 0, -1);
    }

    private static void bad(int sort, int fault, String marked) {
        int place = marked.indexOf('^');
        Check.dueFault(sort, marked.substring(0, place) + marked.substring(place + 1), fault, place);
    }

    private static void tokens() {
        good(Check.SHIFTS, "");
        good(Check.SHIFTS, "  \n ");
        good(Check.SHIFTS, "\n maid\n1 \n 2 ; ");
        good(Check.SHIFTS, "maid1 2;maid 3 4 ;maid 05 09;");
        good(Check.COURT, "room 1 0;lady 0 1 2 3 4;");
        bad(Check.SHIFTS, 1, "maid 1^\t2;");
        bad(Check.SHIFTS, 1, "^\r");
        bad(Check.SHIFTS, 1, "^Maid 1 2;");
        bad(Check.SHIFTS, 1, "^mAid 1 2;");
        bad(Check.SHIFTS, 1, "^mai d 1 2;");
        bad(Check.SHIFTS, 1, "^maids 1 2;");
        bad(Check.SHIFTS, 1, "^maidz 1 2;");
        bad(Check.SHIFTS, 1, "^maida 1 2;");
        bad(Check.SHIFTS, 1, "maid^{ 1 2;");
        bad(Check.SHIFTS, 1, "maid^` 1 2;");
        bad(Check.SHIFTS, 1, "maid^/1 2;");
        bad(Check.SHIFTS, 1, "maid 1^: 2;");
        bad(Check.SHIFTS, 1, "maid^_ 1 2;");
        bad(Check.SHIFTS, 1, "maid ^001 2;");
        bad(Check.SHIFTS, 1, "maid 1 ^100;");
        bad(Check.SHIFTS, 1, "maid 1 ^12345678901234567890;");
        bad(Check.SHIFTS, 1, "maid 1 2;^" + (char) 0);
        bad(Check.SHIFTS, 1, "maid 1 2;^" + (char) 160);
        bad(Check.SHIFTS, 1, "maid 1 2;^" + (char) 255 + " maid");
        bad(Check.SHIFTS, 1, "maid ^-1 2;");
        bad(Check.SHIFTS, 1, "maid 1^,2;");
        bad(Check.SHIFTS, 1, "maid 1 2 ^3;");
        bad(Check.SHIFTS, 1, "maid 1^;");
        bad(Check.SHIFTS, 1, "maid^;");
        bad(Check.SHIFTS, 1, "^;");
        bad(Check.SHIFTS, 1, "maid 1 2;^;");
        bad(Check.SHIFTS, 1, "^1 2;");
        bad(Check.SHIFTS, 1, "maid^");
        bad(Check.SHIFTS, 1, "maid 1^");
        bad(Check.SHIFTS, 1, "maid 1 2^");
        bad(Check.SHIFTS, 1, "maid 1 2 \n ^");
        bad(Check.SHIFTS, 1, "maid 1 2;maid 1 2 ^maid 3 4;");
        bad(Check.SHIFTS, 1, "maid 1 ^maid;");
    }

    private static void courts() {
        good(Check.COURT, "room 1 0;room 9 9;room 1 9;room 9 0;");
        bad(Check.COURT, 2, "room ^0 0;");
        bad(Check.COURT, 2, "room ^10 0;");
        bad(Check.COURT, 2, "room 1 ^10;");
        bad(Check.COURT, 3, Check.times(4, "room 1 0;") + "^room 1 0;");
        String room = Check.times(4, "room 1 0;");
        good(Check.COURT, room + "lady 0 0 0 0 0;lady 3 30 60 90 40;");
        bad(Check.COURT, 2, room + "lady ^4 0 0 0 0;");
        bad(Check.COURT, 2, room + "lady 0 ^31 0 0 0;");
        bad(Check.COURT, 2, room + "lady 0 0 ^61 0 0;");
        bad(Check.COURT, 2, room + "lady 0 0 0 ^91 0;");
        bad(Check.COURT, 2, room + "lady 0 0 0 0 ^41;");
        good(Check.COURT, room + Check.times(8, "lady 0 0 0 0 0;"));
        bad(Check.COURT, 3, room + Check.times(8, "lady 0 0 0 0 0;") + "^lady 0 0 0 0 0;");
        good(Check.COURT, "proper 0 0;proper 40 30;proper 1 0;proper 2 0;proper 3 0;proper 4 0;");
        bad(Check.COURT, 2, "proper ^41 0;");
        bad(Check.COURT, 2, "proper 0 ^31;");
        bad(Check.COURT, 2, "proper 1 0;proper 2 0;proper ^01 3;");
        bad(Check.COURT, 3, "proper 1 0;proper 2 0;proper 3 0;proper 4 0;proper 5 0;proper 6 0;^proper 7 0;");
        bad(Check.COURT, 3, "proper 1 0;proper 2 0;proper 3 0;proper 4 0;proper 5 0;proper 6 0;^proper 6 0;");
        good(Check.COURT, "slack 0;slack 9;rest 1;rest 9;glass 0;glass 40;wind 9 9 9;wind 0 0 1;");
        bad(Check.COURT, 2, "slack ^10;");
        bad(Check.COURT, 2, "rest ^0;");
        bad(Check.COURT, 2, "rest ^10;");
        bad(Check.COURT, 2, "glass ^41;");
        bad(Check.COURT, 2, "wind ^10 0 0;");
        bad(Check.COURT, 2, "wind 0 ^10 0;");
        bad(Check.COURT, 2, "wind 0 0 ^10;");
        bad(Check.COURT, 1, "room 1^;");
        bad(Check.COURT, 1, "room 1 1 ^1;");
        bad(Check.COURT, 1, "lady 1 1 1 1^;");
        bad(Check.COURT, 1, "lady 1 1 1 1 1 ^1;");
        bad(Check.COURT, 1, "proper 1^;");
        bad(Check.COURT, 1, "slack^;");
        bad(Check.COURT, 1, "rest 1 ^1;");
        bad(Check.COURT, 1, "glass 1 ^1;");
        bad(Check.COURT, 1, "wind 1 1^;");
        bad(Check.COURT, 1, "^minute;");
        bad(Check.COURT, 1, "^mark 1;");
    }

    private static void courtsAsAWhole() {
        bad(Check.COURT, 4, "lady 0 0 0 0 0;^");
        bad(Check.COURT, 4, "room 1 0;lady 0 0 0 0 0;lady 1 0 0 0 0; \n ^");
        good(Check.COURT, "lady 1 0 0 0 0;room 1 0;room 1 0;");
        bad(Check.COURT, 4, "wind 0 0 0;^");
        good(Check.COURT, "wind 0 0 0;wind 0 1 0;");
        bad(Check.COURT, 4, "wind 0 1 0;wind 0 0 0;^");
        bad(Check.COURT, 2, "lady 3 0 0 0 0;wind 0 0 0;slack ^10;");
    }

    private static void balls() {
        good(Check.BALL, "glass 0;glass 40;open 0;open 3;shut 0;shut 3;sigh 0;sigh 7;tie 0 1;tie 7 9;"
                + "loosen 0 1;loosen 7 9;go 0 0;go 7 3;toast;minute;");
        bad(Check.BALL, 2, "glass ^41;");
        bad(Check.BALL, 2, "open ^4;");
        bad(Check.BALL, 2, "shut ^4;");
        bad(Check.BALL, 2, "sigh ^8;");
        bad(Check.BALL, 2, "tie ^8 1;");
        bad(Check.BALL, 2, "tie 0 ^0;");
        bad(Check.BALL, 2, "tie 0 ^10;");
        bad(Check.BALL, 2, "loosen ^8 1;");
        bad(Check.BALL, 2, "loosen 0 ^0;");
        bad(Check.BALL, 2, "loosen 0 ^10;");
        bad(Check.BALL, 2, "go ^8 0;");
        bad(Check.BALL, 2, "go 0 ^4;");
        good(Check.BALL, Check.times(40, "toast;"));
        bad(Check.BALL, 3, Check.times(40, "minute;") + "^toast;");
        bad(Check.BALL, 3, Check.times(40, "minute;") + "^open 9;");
        bad(Check.BALL, 1, "toast ^1;");
        bad(Check.BALL, 1, "minute ^1;");
        bad(Check.BALL, 1, "glass^;");
        bad(Check.BALL, 1, "glass 1 ^1;");
        bad(Check.BALL, 1, "open^;");
        bad(Check.BALL, 1, "shut 1 ^1;");
        bad(Check.BALL, 1, "sigh 1 ^1;");
        bad(Check.BALL, 1, "tie 1^;");
        bad(Check.BALL, 1, "loosen 1 1 ^1;");
        bad(Check.BALL, 1, "go 1^;");
        bad(Check.BALL, 1, "^room 1 0;");
    }

    private static void forecasts() {
        good(Check.FORECAST, "mark 0;mark 40 0 1 2;mark 3;");
        good(Check.FORECAST, "mark 0 1 2 3 4 5 6 7;mark 0 1 2 3 4 5 6 7;");
        bad(Check.FORECAST, 2, "mark ^41;");
        bad(Check.FORECAST, 2, "mark 1 2 ^99 50;");
        bad(Check.FORECAST, 3, "mark 0 1 2 3 4 5 6 7;mark 0 1 2 3 4 5 6 7 ^8;");
        bad(Check.FORECAST, 3, "mark 0 1 2 3 4 5 6 7;mark 0 1 2 3 4 5 6 7;mark ^8 41;");
        bad(Check.FORECAST, 2, "mark 0 1 2 3 4 5 6 7;mark 0 1 2 3 4 5 6 7;mark ^41;");
        bad(Check.FORECAST, 1, "mark^;");
        bad(Check.FORECAST, 1, "mark ^mark 1;");
        bad(Check.FORECAST, 1, "mark 1 ^mark 1;");
        bad(Check.FORECAST, 1, "^1;");
        bad(Check.FORECAST, 1, "mark 1 2^");
        bad(Check.FORECAST, 1, "mark 1 2 ^300;");
        bad(Check.FORECAST, 1, Check.times(20, "mark 1;") + "mark^!");
    }

    private static void sights() {
        good(Check.SIGHT, "fell 0 1;fell 7 16;stood 0 1;stood 7 16;shot 0 0 fell;shot 7 60 stood;");
        bad(Check.SIGHT, 2, "fell ^8 1;");
        bad(Check.SIGHT, 2, "fell 0 ^0;");
        bad(Check.SIGHT, 2, "fell 0 ^17;");
        bad(Check.SIGHT, 2, "stood ^8 1;");
        bad(Check.SIGHT, 2, "stood 0 ^0;");
        bad(Check.SIGHT, 2, "stood 0 ^17;");
        bad(Check.SIGHT, 2, "shot ^8 0 fell;");
        bad(Check.SIGHT, 2, "shot 0 ^61 stood;");
        String full = Check.times(10, "fell 0 1;stood 0 1;") + Check.times(20, "shot 0 0 fell;");
        good(Check.SIGHT, full);
        bad(Check.SIGHT, 3, full + "^fell 0 1;");
        bad(Check.SIGHT, 3, full + "^stood 0 1;");
        bad(Check.SIGHT, 3, full + "^shot 0 1 stood;");
        bad(Check.SIGHT, 1, "fell 0^;");
        bad(Check.SIGHT, 1, "fell 0 1 ^1;");
        bad(Check.SIGHT, 1, "stood 0 1 ^fell;");
        bad(Check.SIGHT, 1, "shot 0 0^;");
        bad(Check.SIGHT, 1, "shot 0 ^fell;");
        bad(Check.SIGHT, 1, "shot 0 0 ^shot;");
        bad(Check.SIGHT, 1, "shot 0 0 ^1;");
        bad(Check.SIGHT, 1, "shot 0 0 fell ^stood;");
        bad(Check.SIGHT, 1, "^falls 0 1;");
    }

    private static void ledgers() {
        good(Check.LEDGER, "owes 0 7 1;owes 7 0 99;");
        bad(Check.LEDGER, 2, "owes ^8 0 1;");
        bad(Check.LEDGER, 2, "owes 0 ^8 1;");
        bad(Check.LEDGER, 2, "owes 0 1 ^0;");
        bad(Check.LEDGER, 2, "owes 3 ^3 1;");
        bad(Check.LEDGER, 2, "owes 3 ^03 0;");
        bad(Check.LEDGER, 2, "owes ^9 9 0;");
        good(Check.LEDGER, Check.times(30, "owes 0 1 1;"));
        bad(Check.LEDGER, 3, Check.times(30, "owes 0 1 1;") + "^owes 0 1 1;");
        bad(Check.LEDGER, 1, "owes 0 1^;");
        bad(Check.LEDGER, 1, "owes 0^;");
        bad(Check.LEDGER, 1, "owes 0 1 1 ^1;");
        bad(Check.LEDGER, 1, "owes 0 1 ^100;");
        bad(Check.LEDGER, 1, "^maid 0 1;");
    }

    private static void shifts() {
        good(Check.SHIFTS, "maid 0 30;maid 0 0;maid 30 30;");
        bad(Check.SHIFTS, 2, "maid ^31 31;");
        bad(Check.SHIFTS, 2, "maid 0 ^31;");
        bad(Check.SHIFTS, 2, "maid 5 ^4;");
        good(Check.SHIFTS, Check.times(10, "maid 0 0;"));
        bad(Check.SHIFTS, 3, Check.times(10, "maid 0 0;") + "^maid 0 0;");
        bad(Check.SHIFTS, 1, "^owes 0 1 1;");
    }

    /** FAULT 1 ahead of all, then the first by place. */
    private static void order() {
        bad(Check.SHIFTS, 1, "maid 31 31;" + Check.times(10, "maid 0 0;") + "^x");
        bad(Check.SHIFTS, 1, "maid 5 4^");
        bad(Check.SHIFTS, 2, "maid ^31 0;" + Check.times(10, "maid 0 0;"));
        bad(Check.SHIFTS, 3, "maid 5 5;" + Check.times(9, "maid 0 0;") + "^maid 5 4;");
        bad(Check.SHIFTS, 2, Check.times(9, "maid 0 0;") + "maid 5 ^4;maid 0 0;");
        bad(Check.COURT, 2, Check.times(4, "room 1 0;") + "rest ^0;room 1 0;");
        bad(Check.COURT, 3, Check.times(4, "room 1 0;") + "^room 0 0;rest 0;");
        bad(Check.COURT, 1, "lady 0 0 0 0 0;wind 0 0 0;room^;");
    }
}
