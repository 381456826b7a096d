import java.math.BigInteger;
import java.util.ArrayList;
import java.util.Arrays;
import java.util.List;
import java.util.Random;

/**
 * The promises on drawn texts against a plain model, which tries out all rows, paths, sets and
 * payments wherever the program reckons more cleverly.
 */
public final class ModelTest {
    private static final Random RANDOM = new Random(20261118);

    private static int[][] rooms;
    private static int[][] ladies;
    private static int[][] steps;
    private static int[] wind;
    private static int slack;
    private static int rest;
    private static int glass;

    public static void main(String[] args) {
        for (int round = 0; round < 300; round++) {
            GlassLaces x = Check.told(Check.COURT, drawCourt());
            lawAndStanding(x);
            ball(x);
            forecast(x);
            wind(x);
            sight(x);
            weather(x);
            ledger();
            shifts();
        }
        Check.finish();
    }

    private static int draw(int low, int high) {
        return low + RANDOM.nextInt(high - low + 1);
    }

    private static String line(StringBuilder text, String word, int... numbers) {
        text.append(word);
        for (int number : numbers) {
            text.append(RANDOM.nextInt(6) == 0 ? "\n" : " ");
            text.append(number < 10 && RANDOM.nextInt(6) == 0 ? "0" : "").append(number);
        }
        return text.append(RANDOM.nextInt(4) == 0 ? " ;" : ";").toString();
    }

    private static String drawCourt() {
        StringBuilder text = new StringBuilder();
        rooms = new int[draw(1, 4)][];
        for (int r = 0; r < rooms.length; r++) {
            rooms[r] = new int[] {draw(1, 5), RANDOM.nextBoolean() ? draw(0, 3) : draw(0, 9)};
            line(text, "room", rooms[r]);
        }
        ladies = new int[draw(0, 8)][];
        for (int l = 0; l < ladies.length; l++) {
            ladies[l] = new int[] {draw(0, rooms.length - 1), draw(0, 12), draw(0, 40), draw(20, 60), draw(0, 40)};
            line(text, "lady", ladies[l]);
        }
        steps = new int[draw(0, 6)][];
        for (int s = 0; s < steps.length; s++) {
            steps[s] = new int[] {7 * s + draw(0, 5) - (s == 0 ? 0 : 1), draw(0, 15)};
            line(text, "proper", steps[s]);
        }
        slack = draw(0, 9);
        rest = draw(1, 4);
        glass = RANDOM.nextInt(3) == 0 ? draw(0, 40) : draw(20, 36);
        wind = new int[] {draw(0, 9), draw(0, 4), draw(1, 9)};
        line(text, "slack", slack);
        line(text, "rest", rest);
        line(text, "glass", glass);
        line(text, "wind", wind);
        return text.toString();
    }

    private static int properAt(int mark) {
        for (int m = mark; m >= 0; m--) {
            for (int[] step : steps) {
                if (step[0] == m) {
                    return step[1];
                }
            }
        }
        return 0;
    }

    private static String fate(int l, int lace, int pressure) {
        if (lace + pressure > ladies[l][3]) {
            return "bursts";
        }
        return lace + (30 - pressure) > ladies[l][2] ? "faints" : "stands";
    }

    private static boolean stands(int l, int lace, int mark) {
        return fate(l, lace, mark - rooms[ladies[l][0]][1]).equals("stands");
    }

    private static void lawAndStanding(GlassLaces x) {
        for (int mark = 0; mark <= 40; mark++) {
            Check.due("PROPER", x.court(0, 100 + mark), properAt(mark));
        }
        for (int l = 0; l < ladies.length; l++) {
            int lace = draw(0, 30);
            int p = draw(-9, 60);
            Check.due("under", x.under(0, l, lace, p), Arrays.asList("stands", "faints", "bursts").indexOf(fate(l, lace, p)));
            int mark = draw(0, 40);
            int climb = -1;
            for (int height = 0; height <= 40; height++) {
                climb = fate(l, ladies[l][1], mark - height).equals("stands") ? height : climb;
            }
            Check.due("CLIMB", x.climb(0, l, mark, 0), climb);
            int house = 0;
            for (int r = 0; r < rooms.length; r++) {
                house += fate(l, ladies[l][1], mark - rooms[r][1]).equals("stands") ? 1 << r : 0;
            }
            Check.due("HOUSE", x.climb(0, l, mark, 1), house);
            List<Integer> free = new ArrayList<>();
            int best = 0;
            for (int k = 0; k <= 30; k++) {
                if (stands(l, k, mark)) {
                    free.add(k);
                }
                best = calm(l, k) > calm(l, best) ? k : best;
            }
            Check.due("FREE", x.climb(0, l, mark, 2), free.size());
            Check.due("FREE, least", x.climb(0, l, mark, 3), free.isEmpty() ? -1 : free.get(0));
            Check.due("FREE, most", x.climb(0, l, mark, 4), free.isEmpty() ? -1 : free.get(free.size() - 1));
            Check.due("CALM", x.calm(0, l, lace), calm(l, lace));
            Check.due("BEST", x.calm(0, l, -1), best);
        }
    }

    private static int calm(int l, int lace) {
        int best = 0;
        for (int from = 0; from <= 40; from++) {
            for (int to = from; to <= 40 && stands(l, lace, to); to++) {
                best = Math.max(best, to - from + 1);
            }
        }
        return best;
    }

    /** A plain ball: who is where and how, told deed by deed. */
    private static final class Ball {
        int[] air = new int[4];
        boolean[] open = {true, true, true, true};
        int[] room = new int[8];
        int[] lace = new int[8];
        int[] down = new int[8];
        boolean[] burst = new boolean[8];
        int[] fainted = new int[8];
        int[] when = new int[8];
        int mark = glass;
        int minutes;
        int knots;
        int tales;
        int toasts;
        int toasted = -1;

        Ball() {
            Arrays.fill(air, glass);
            Arrays.fill(when, -1);
            for (int l = 0; l < ladies.length; l++) {
                room[l] = ladies[l][0];
                lace[l] = ladies[l][1];
            }
        }

        boolean up(int l) {
            return !burst[l] && down[l] == 0;
        }

        void setMark(int m) {
            mark = m;
            for (int r = 0; r < rooms.length; r++) {
                air[r] = open[r] ? m : air[r];
            }
        }

        int pressure(int r) {
            return air[r] - rooms[r][1];
        }

        boolean can(int[] deed) {
            int a = deed[1];
            switch (deed[0]) {
                case 1:
                    return a < rooms.length && !open[a];
                case 2:
                    return a < rooms.length && open[a];
                case 3:
                    return a < ladies.length && up(a);
                case 4:
                    return a < ladies.length && !burst[a] && lace[a] + deed[2] <= 30;
                case 5:
                    return a < ladies.length && !burst[a] && lace[a] - deed[2] >= 0;
                case 6:
                    return a < ladies.length && up(a) && deed[2] < rooms.length;
                default:
                    return true;
            }
        }

        void does(int[] deed) {
            int a = deed[1];
            switch (deed[0]) {
                case 0:
                    setMark(a);
                    break;
                case 1:
                    open[a] = true;
                    air[a] = mark;
                    break;
                case 2:
                    open[a] = false;
                    break;
                case 3:
                    if (!open[room[a]] && rooms[room[a]][0] <= 3 && air[room[a]] < 40) {
                        air[room[a]]++;
                    }
                    break;
                case 4:
                case 5:
                    lace[a] += deed[0] == 4 ? deed[2] : -deed[2];
                    knots += deed[2];
                    break;
                case 6:
                    room[a] = deed[2];
                    break;
                case 7:
                    toasts++;
                    toasted = Integer.bitCount(bits("up"));
                    break;
                default:
                    minute();
                    break;
            }
        }

        void minute() {
            minutes++;
            for (int r = 0; r < rooms.length; r++) {
                if (air[r] < mark) {
                    air[r]++;
                } else if (air[r] > mark) {
                    air[r]--;
                }
            }
            for (int l = 0; l < ladies.length; l++) {
                if (down[l] > 0) {
                    down[l]--;
                }
                if (up(l)) {
                    String fate = fate(l, lace[l], pressure(room[l]));
                    if (fate.equals("bursts")) {
                        burst[l] = true;
                        when[l] = minutes;
                    } else if (fate.equals("faints")) {
                        down[l] = rest;
                        fainted[l]++;
                        when[l] = minutes;
                    }
                }
            }
            for (int a = 0; a < ladies.length; a++) {
                for (int b = 0; b < a; b++) {
                    if (up(a) && up(b) && room[a] == room[b]
                            && Math.max(ladies[a][4], ladies[b][4]) <= pressure(room[a])) {
                        tales++;
                    }
                }
            }
        }

        int bits(String who) {
            int bits = 0;
            for (int l = 0; l < ladies.length; l++) {
                String is = burst[l] ? "burst" : down[l] > 0 ? "down" : "up";
                boolean improper = up(l) && Math.abs(lace[l] - properAt(mark)) > slack;
                bits += is.equals(who) || who.equals("improper") && improper ? 1 << l : 0;
            }
            return bits;
        }
    }

    private static void ball(GlassLaces x) {
        String[] words = {"glass", "open", "shut", "sigh", "tie", "loosen", "go", "toast", "minute"};
        int[][] deeds = new int[draw(0, 40)][];
        StringBuilder text = new StringBuilder();
        Ball plan = new Ball();
        for (int k = 0; k < deeds.length; k++) {
            for (int tries = 0; tries < 20 && (tries == 0 || !plan.can(deeds[k])); tries++) {
                deeds[k] = drawDeed();
            }
            if (plan.can(deeds[k])) {
                plan.does(deeds[k]);
            }
            int[] deed = deeds[k];
            line(text, words[deed[0]], Arrays.copyOfRange(deed, 1, deed[2] >= 0 ? 3 : deed[1] >= 0 ? 2 : 1));
        }
        Check.due("ball", Check.read(x, Check.BALL, text.toString()), 0);
        Ball ball = new Ball();
        int stop = 0;
        dueBall(x, ball, 0);
        while (stop < deeds.length && ball.can(deeds[stop])) {
            ball.does(deeds[stop]);
            stop++;
            if (RANDOM.nextInt(4) == 0) {
                dueBall(x, ball, stop);
            }
        }
        dueBall(x, ball, stop);
        Check.due("STOP", x.stop(0, 0), stop);
        Check.due("behind STOP", x.state(0, 0, stop + 1, 0), -100);
    }

    private static int[] drawDeed() {
        int lady = RANDOM.nextInt(12) == 0 ? draw(0, 7) : draw(0, Math.max(0, ladies.length - 1));
        int room = RANDOM.nextInt(12) == 0 ? draw(0, 3) : draw(0, rooms.length - 1);
        switch (draw(0, 11)) {
            case 0:
                return new int[] {0, RANDOM.nextInt(4) == 0 ? draw(0, 40) : draw(22, 34), -1};
            case 1:
                return new int[] {1, room, -1};
            case 2:
                return new int[] {2, room, -1};
            case 3:
                return new int[] {3, lady, -1};
            case 4:
                return new int[] {4, lady, draw(1, 9)};
            case 5:
                return new int[] {5, lady, draw(1, 9)};
            case 6:
                return new int[] {6, lady, room};
            case 7:
                return new int[] {7, -1, -1};
            default:
                return new int[] {8, -1, -1};
        }
    }

    private static void dueBall(GlassLaces x, Ball ball, int n) {
        int open = 0;
        for (int r = 0; r < rooms.length; r++) {
            open += ball.open[r] ? 1 << r : 0;
            Check.due("PRESSURE", x.state(0, 0, n, 20 + r), ball.pressure(r));
        }
        int[] due = {ball.minutes, ball.mark, ball.bits("up"), ball.bits("down"), ball.bits("burst"), ball.knots,
            ball.tales, ball.bits("improper"), ball.toasts, ball.toasted, open};
        for (int what = 0; what < due.length; what++) {
            Check.due("state, what " + what, x.state(0, 0, n, what), due[what]);
        }
        for (int l = 0; l < ladies.length; l++) {
            int[] of = {ball.room[l], ball.lace[l], ball.down[l], ball.fainted[l], ball.when[l]};
            for (int what = 0; what < 5; what++) {
                Check.due("of, what " + what, x.of(0, 0, n, l, what), of[what]);
            }
        }
    }

    private static void forecast(GlassLaces x) {
        int[] marks = new int[draw(0, 3)];
        StringBuilder text = new StringBuilder();
        for (int k = 0; k < marks.length; k++) {
            marks[k] = draw(18, 38);
        }
        if (marks.length > 0) {
            line(text, "mark", marks);
        }
        Check.due("forecast", Check.read(x, Check.FORECAST, text.toString()), 0);
        int[][] knots = new int[2][ladies.length];
        for (int l = 0; l < ladies.length; l++) {
            int falls = -1;
            for (int k = marks.length - 1; k >= 0; k--) {
                falls = stands(l, ladies[l][1], marks[k]) ? falls : k;
            }
            Check.due("FALLS", x.falls(0, 0, l), falls);
            for (int proper = 0; proper < 2; proper++) {
                int[] best = bestRow(l, marks, proper == 1, new int[marks.length], 0, null);
                knots[proper][l] = best == null ? -1 : knotsOf(l, best);
                Check.due("LACED, KNOTS", x.laced(0, 0, l, proper == 1, 0), knots[proper][l]);
                for (int k = 0; k < marks.length; k++) {
                    Check.due("LACED", x.laced(0, 0, l, proper == 1, 10 + k), best == null ? -1 : best[k]);
                }
            }
        }
        for (int proper = 0; proper < 2; proper++) {
            for (int n = 0; n <= ladies.length; n++) {
                int[] least = least(knots[proper], n);
                Check.due("LEAST", x.least(0, 0, n, proper == 1, false), least[0]);
                Check.due("LEAST, who", x.least(0, 0, n, proper == 1, true), least[1]);
            }
        }
    }

    private static int knotsOf(int l, int[] row) {
        int sum = 0;
        for (int k = 0; k < row.length; k++) {
            sum += Math.abs(row[k] - (k == 0 ? ladies[l][1] : row[k - 1]));
        }
        return sum;
    }

    /** All rows by order; the first with the fewest KNOTS stays. */
    private static int[] bestRow(int l, int[] marks, boolean proper, int[] row, int at, int[] best) {
        if (at == marks.length) {
            return best == null || knotsOf(l, row) < knotsOf(l, best) ? row.clone() : best;
        }
        int[] found = best;
        for (int lace = 0; lace <= 30; lace++) {
            if (stands(l, lace, marks[at]) && (!proper || Math.abs(lace - properAt(marks[at])) <= slack)) {
                row[at] = lace;
                found = bestRow(l, marks, proper, row, at + 1, found);
            }
        }
        return found;
    }

    private static int[] least(int[] knots, int n) {
        int[] best = {-1, -1};
        for (int bits = (1 << knots.length) - 1; bits >= 0; bits--) {
            int sum = 0;
            boolean can = Integer.bitCount(bits) == n;
            for (int l = 0; l < knots.length; l++) {
                if ((bits >> l & 1) == 1) {
                    can &= knots[l] >= 0;
                    sum += knots[l];
                }
            }
            if (can && (best[0] < 0 || sum <= best[0])) {
                best = new int[] {sum, bits};
            }
        }
        return best;
    }

    /** The weight of all paths of n minutes by which what is asked comes true. */
    private static long weigh(int n, int mark, boolean came, int asked, int lady, boolean ends) {
        boolean now = lady >= 0 ? !stands(lady, ladies[lady][1], mark) : mark == asked;
        if (n == 0) {
            return (ends ? came || now : now) ? 1 : 0;
        }
        long sum = 0;
        for (int gust = 0; gust < 3; gust++) {
            int next = Math.max(0, Math.min(40, mark + gust - 1));
            sum += wind[gust] * weigh(n - 1, next, came || now, asked, lady, ends);
        }
        return sum;
    }

    private static void dueOdds(String call, long top, long bottom, long weight, int n) {
        BigInteger all = BigInteger.valueOf(wind[0] + wind[1] + wind[2]).pow(n);
        BigInteger part = BigInteger.valueOf(weight);
        BigInteger divisor = all.gcd(part);
        Check.due(call + ", N", top, part.divide(divisor).longValueExact());
        Check.due(call + ", D", bottom, all.divide(divisor).longValueExact());
    }

    private static void wind(GlassLaces x) {
        int n = RANDOM.nextInt(20) == 0 ? 9 : draw(0, 5);
        int mark = Math.max(0, Math.min(40, glass + draw(-n, n)));
        dueOdds("REACH", x.reach(0, mark, n, false, false), x.reach(0, mark, n, false, true),
                weigh(n, glass, false, mark, -1, false), n);
        dueOdds("ENDS", x.reach(0, mark, n, true, false), x.reach(0, mark, n, true, true),
                weigh(n, glass, false, mark, -1, true), n);
        for (int l = 0; l < ladies.length; l++) {
            long weight = 0;
            for (int gust = 0; gust < 3 && n > 0; gust++) {
                int next = Math.max(0, Math.min(40, glass + gust - 1));
                weight += wind[gust] * weigh(n - 1, next, false, -1, l, true);
            }
            dueOdds("DROP", x.drop(0, l, n, false), x.drop(0, l, n, true), weight, n);
            worth(x, l);
        }
    }

    private static void worth(GlassLaces x, int l) {
        int pen = RANDOM.nextBoolean() ? draw(0, 12) : draw(0, 99);
        int bestLace = -1;
        int without = Integer.MAX_VALUE;
        int[] known = {Integer.MAX_VALUE, Integer.MAX_VALUE, Integer.MAX_VALUE};
        for (int lace = 0; lace <= 30; lace++) {
            int sum = 0;
            for (int gust = 0; gust < 3; gust++) {
                int next = Math.max(0, Math.min(40, glass + gust - 1));
                int cost = Math.abs(lace - ladies[l][1]) + (stands(l, lace, next) ? 0 : pen);
                known[gust] = Math.min(known[gust], cost);
                sum += wind[gust] * cost;
            }
            if (sum < without) {
                without = sum;
                bestLace = lace;
            }
        }
        int with = wind[0] * known[0] + wind[1] * known[1] + wind[2] * known[2];
        dueOdds("WORTH", x.worth(0, l, pen, 0), x.worth(0, l, pen, 1), without - with, 1);
        Check.due("WORTH, LACE", x.worth(0, l, pen, 2), bestLace);
    }

    private static List<int[]> paths(int last) {
        List<int[]> all = new ArrayList<>();
        all.add(new int[] {glass});
        for (int minute = 1; minute <= last; minute++) {
            List<int[]> longer = new ArrayList<>();
            for (int[] path : all) {
                for (int next = path[minute - 1] - 1; next <= path[minute - 1] + 1; next++) {
                    if (next >= 0 && next <= 40) {
                        int[] one = Arrays.copyOf(path, minute + 1);
                        one[minute] = next;
                        longer.add(one);
                    }
                }
            }
            all = longer;
        }
        return all;
    }

    private static void sight(GlassLaces x) {
        int last = draw(0, 6);
        int[][] seen = new int[ladies.length == 0 || last == 0 ? 0 : draw(0, 5)][];
        int[][] shots = new int[draw(0, 6)][];
        StringBuilder text = new StringBuilder();
        List<int[]> all = paths(last);
        int[] truth = all.get(RANDOM.nextInt(all.size()));
        int told = 0;
        for (int k = 0; k < seen.length; k++) {
            int lady = draw(0, ladies.length - 1);
            int minute = draw(1, last);
            boolean stood = stands(lady, ladies[lady][1], truth[minute]) ^ RANDOM.nextInt(20) == 0;
            seen[k] = new int[] {lady, minute, stood ? 0 : 1};
            line(text, stood ? "stood" : "fell", lady, minute);
            told = Math.max(told, minute);
        }
        for (int k = 0; k < shots.length; k++) {
            shots[k] = new int[] {draw(0, 7), draw(15, 40), draw(0, 1)};
            line(text, "shot", shots[k][0], shots[k][1]);
            text.setLength(text.length() - 1);
            text.append(shots[k][2] == 1 ? " fell;" : " stood;");
        }
        Check.due("sight", Check.read(x, Check.SIGHT, text.toString().replace(" ;", ";").replace("; fell", " fell")
                .replace("; stood", " stood")), 0);
        int[] low = new int[told + 1];
        int[] high = new int[told + 1];
        Arrays.fill(low, 99);
        Arrays.fill(high, -1);
        int ways = 0;
        for (int[] path : paths(told)) {
            boolean can = true;
            for (int[] one : seen) {
                can &= stands(one[0], ladies[one[0]][1], path[one[1]]) == (one[2] == 0);
            }
            for (int minute = 0; minute <= told && can; minute++) {
                low[minute] = Math.min(low[minute], path[minute]);
                high[minute] = Math.max(high[minute], path[minute]);
            }
            ways += can ? 1 : 0;
        }
        Check.due("ways", x.ways(0, 0), ways);
        for (int minute = 0; minute <= told + 1; minute++) {
            boolean none = ways == 0 || minute > told;
            Check.due("MAY, least", x.may(0, 0, minute, 0), none ? -1 : low[minute]);
            Check.due("MAY, most", x.may(0, 0, minute, 1), none ? -1 : high[minute]);
            Check.due("SURE", x.may(0, 0, minute, 2), none || low[minute] < high[minute] ? -1 : low[minute]);
        }
        for (int l = 0; l < ladies.length; l++) {
            int bits = 0;
            for (int lace = 0; lace <= 30; lace++) {
                boolean can = true;
                for (int[] shot : shots) {
                    can &= shot[0] != l || fate(l, lace, shot[1]).equals("stands") == (shot[2] == 0);
                }
                bits += can ? 1 << lace : 0;
            }
            Check.due("SPY", x.spy(0, 0, l), bits);
        }
    }

    private static void weather(GlassLaces x) {
        int seed = RANDOM.nextInt();
        int n = draw(0, 60);
        Ball ball = new Ball();
        int low = glass;
        int high = glass;
        long s = seed & 0xFFFFFFFFL;
        for (int minute = 0; minute < n; minute++) {
            s = (s * 1103515245L + 12345L) & 0xFFFFFFFFL;
            long number = (s >> 16) % (wind[0] + wind[1] + wind[2]);
            int gust = number < wind[0] ? -1 : number < wind[0] + wind[1] ? 0 : 1;
            ball.setMark(Math.max(0, Math.min(40, ball.mark + gust)));
            low = Math.min(low, ball.mark);
            high = Math.max(high, ball.mark);
            ball.minute();
        }
        int[] due = {ball.mark, ball.bits("up"), ball.bits("down"), ball.bits("burst"), ball.tales, low, high};
        for (int what = 0; what < due.length; what++) {
            Check.due("drawn, what " + what, x.drawn(0, seed, n, what), due[what]);
        }
        for (int l = 0; l < ladies.length; l++) {
            Check.due("drawn, fainted", x.drawn(0, seed, n, 10 + l), ball.fainted[l]);
        }
    }

    private static void ledger() {
        int[][] pawns = new int[draw(0, 12)][];
        StringBuilder text = new StringBuilder();
        int many = draw(2, 7);
        int most = RANDOM.nextBoolean() ? 3 : 20;
        for (int k = 0; k < pawns.length; k++) {
            int debtor = draw(0, many);
            pawns[k] = new int[] {debtor, (debtor + draw(1, many)) % (many + 1), draw(1, most)};
            line(text, "owes", pawns[k]);
        }
        GlassLaces x = Check.told(Check.LEDGER, text.toString());
        int[] nets = new int[8];
        int[] owed = new int[8];
        for (int[] pawn : pawns) {
            nets[pawn[0]] -= pawn[2];
            nets[pawn[1]] += pawn[2];
            owed[pawn[0]] += pawn[2];
        }
        int deepest = 0;
        for (int lady = 0; lady < 8; lady++) {
            Check.due("NET", x.net(0, lady), nets[lady]);
            deepest = owed[lady] > owed[deepest] ? lady : deepest;
        }
        Check.due("PAYS", x.pays(0, false), payments(nets.clone(), 0));
        Check.due("CHAIN", x.pays(0, true), owed[deepest] == 0 ? 0 : chain(pawns, deepest, 0));
    }

    /** Tries all: the first lady whose NET is not 0 pays, or is paid by, a later one all of it. */
    private static int payments(int[] nets, int from) {
        int first = from;
        while (first < 8 && nets[first] == 0) {
            first++;
        }
        if (first == 8) {
            return 0;
        }
        int best = 99;
        for (int other = first + 1; other < 8; other++) {
            if (nets[first] * nets[other] < 0) {
                nets[other] += nets[first];
                best = Math.min(best, 1 + payments(nets, first + 1));
                nets[other] -= nets[first];
            }
        }
        return best;
    }

    private static int chain(int[][] pawns, int lady, int bits) {
        int all = bits | 1 << lady;
        for (int[] pawn : pawns) {
            if (pawn[0] == lady && (all >> pawn[1] & 1) == 0) {
                all = chain(pawns, pawn[1], all);
            }
        }
        return all;
    }

    private static void shifts() {
        int[][] maids = new int[draw(0, 10)][];
        StringBuilder text = new StringBuilder();
        for (int k = 0; k < maids.length; k++) {
            int from = draw(0, 30);
            maids[k] = new int[] {from, Math.min(30, from + draw(0, 20))};
            if (RANDOM.nextInt(3) == 0) {
                maids[k] = new int[] {draw(0, 8), draw(15, 30)};
            }
            line(text, "maid", maids[k]);
        }
        GlassLaces x = Check.told(Check.SHIFTS, text.toString());
        for (int tries = 0; tries < 6; tries++) {
            int from = draw(0, 30);
            int to = Math.min(30, from + draw(0, 20));
            int k = draw(1, 4);
            int best = -1;
            for (int bits = (1 << maids.length) - 1; bits >= 0; bits--) {
                if (gap(maids, bits, from, to, k) < 0
                        && (best < 0 || Integer.bitCount(bits) <= Integer.bitCount(best))) {
                    best = bits;
                }
            }
            Check.due("COVER", x.cover(0, from, to, k, false), best);
            Check.due("GAP", x.cover(0, from, to, k, true), gap(maids, (1 << maids.length) - 1, from, to, k));
            int longest = 0;
            for (int a = 0; a <= 30; a++) {
                for (int b = a; b <= 30 && gap(maids, (1 << maids.length) - 1, a, b, k) < 0; b++) {
                    longest = Math.max(longest, b - a + 1);
                }
            }
            Check.due("LONGEST", x.longest(0, k), longest);
        }
    }

    private static int gap(int[][] maids, int bits, int from, int to, int k) {
        for (int minute = from; minute <= to; minute++) {
            int there = 0;
            for (int m = 0; m < maids.length; m++) {
                there += (bits >> m & 1) == 1 && maids[m][0] <= minute && minute <= maids[m][1] ? 1 : 0;
            }
            if (there < k) {
                return minute;
            }
        }
        return -1;
    }
}
