import java.util.ArrayList;
import java.util.List;
import java.util.Random;

/** The calls that look for a best one, against plain trials of all that there are. */
public final class SearchesTest {
    private static int wrong = 0;
    private static int asked = 0;
    private static final Random dice = new Random(1218);

    private static void due(String call, long got, long want) {
        asked++;
        if (got == want) return;
        wrong++;
        System.out.println(call + " answered " + got + ", due is " + want);
    }

    private static int some(int least, int most) {
        return least + dice.nextInt(most - least + 1);
    }

    public static void main(String[] args) {
        for (int i = 0; i < 60; i++) {
            moles();
            ways();
            years();
            waits();
            questions();
        }
        System.out.println(wrong == 0 ? asked + " answers are as due" : wrong + " answers are not as due");
        if (wrong != 0) System.exit(1);
    }

    private static void moles() {
        FriarLists x = new FriarLists();
        int range = some(2, 40), many = some(1, 16);
        String text = "rank 0 if trade=0;rank 9 if trade=1;rank 2 if parish>3;rank 1 if paid<9;bar if age=7;proof ";
        int wanted = some(0, 2);
        text += wanted + ";";
        for (int i = 0; i < text.length(); i++) x.feed(text.charAt(i), 1);
        due("read", x.read(), 0);
        x.master(1, 2);
        for (int c = 0; c < many; c++) x.captive(1, 100 * some(0, 5) + 10 * some(0, 3) + some(0, 9) / 8, some(6, 20), 0, some(1, range));
        int[] parishes = new int[many];
        for (int p = 0; p < 20; p++) {
            int c = some(0, many - 1), by = some(-1, 5);
            if (by >= 0) parishes[c] |= 1 << by;
            due("proof", x.proof(c, by), Integer.bitCount(parishes[c]));
        }
        for (int k = some(0, 3); k > 0; k--) x.news(some(-1, many - 1), some(1, 9));
        x.weeks(5);
        x.lose(0, some(5, 8));
        int coin = some(0, range * many);
        List<Integer> those = new ArrayList<>();
        for (int c = 0; c < many && those.size() < 12; c++) {
            boolean isThere = x.of(c, 6) == 0 && x.of(c, 3) == 0 && x.of(c, 9) != 7;
            if (isThere && Integer.bitCount(parishes[c]) >= wanted) those.add(c);
        }
        due("mole(1, " + coin + ")", x.mole(1, coin), bestOf(x, those, coin));
        due("judge", x.judge(1, coin), 0);
        for (int i = 0; i < x.many(10); i++) due("row's ask", x.row(i, 1), x.ask(x.row(i, 0), 5));
    }

    private static int bestOf(FriarLists x, List<Integer> those, int coin) {
        int best = 0;
        int[] bestWorth = new int[11], ranks = new int[those.size()], asks = new int[those.size()];
        for (int i = 0; i < those.size(); i++) {
            ranks[i] = x.rank(those.get(i), 5);
            asks[i] = x.ask(those.get(i), 5);
        }
        for (int set = 1; set < 1 << those.size(); set++) {
            int[] worth = new int[11];
            int bits = 0;
            for (int i = 0; i < those.size(); i++) {
                if ((set >> i & 1) == 0) continue;
                bits |= 1 << those.get(i);
                worth[ranks[i]]++;
                worth[10] -= asks[i];
            }
            int order = -worth[10] > coin ? -1 : java.util.Arrays.compare(worth, bestWorth);
            if (order < 0 || (order == 0 && Integer.compareUnsigned(bits, best) > 0)) continue;
            best = bits;
            bestWorth = worth;
        }
        return best;
    }

    private static final int[][] sail = new int[5][5];
    private static final int[][][] rate = new int[5][3][3];

    private static void ways() {
        FriarLists x = new FriarLists();
        int hunters = some(0, 99);
        for (int a = 0; a < 5; a++) {
            for (int b = 0; b < a; b++) {
                int v = some(0, 3) * 100 + some(0, hunters);
                x.sails(a, b, v);
                sail[a][b] = v;
                sail[b][a] = v;
            }
            for (int i = 0; i < 9; i++) {
                rate[a][i / 3][i % 3] = some(0, 3) == 0 ? some(1, 3000) : 1000;
                x.rate(a, i / 3, i % 3, rate[a][i / 3][i % 3]);
            }
        }
        for (int port = 1; port < 5; port++) {
            List<int[]> home = new ArrayList<>(), out = new ArrayList<>();
            gather(new int[] {port}, 0, home);
            gather(new int[] {0}, port, out);
            roads(x, port, some(1, 99), home);
            for (int ab = 0; ab < 9; ab++) {
                int n = some(0, 1) == 0 ? some(1, 20) : some(1, 99999);
                long most = -3;
                for (int[] way : out) most = Math.max(most, carried(way, 0, ab / 3, ab % 3, n));
                due("brought(" + port + ", " + ab / 3 + ", " + ab % 3 + ", " + n + ")", x.brought(port, ab / 3, ab % 3, n), most);
            }
        }
    }

    private static void gather(int[] way, int to, List<int[]> ways) {
        int last = way[way.length - 1];
        if (last == to) {
            ways.add(way);
            return;
        }
        for (int next = 4; next >= 0; next--) {
            boolean isNew = sail[last][next] >= 100;
            for (int port : way) isNew &= port != next;
            if (!isNew) continue;
            int[] longer = java.util.Arrays.copyOf(way, way.length + 1);
            longer[way.length] = next;
            gather(longer, to, ways);
        }
    }

    /** All choices of a change at each port, one by one. */
    private static long carried(int[] way, int at, int coin, int as, long n) {
        if (at == way.length) return coin == as ? n : -3;
        long most = -3;
        for (int to = 0; to < 3; to++) {
            long got = to == coin ? n : n * rate[way[at]][coin][to] / 1000;
            most = Math.max(most, carried(way, at + 1, to, as, got));
        }
        return most;
    }

    private static void roads(FriarLists x, int port, int n, List<int[]> home) {
        int[] best = null;
        int bestLost = 0, bestWeeks = 0;
        for (int[] way : home) {
            int left = n, weeks = 0;
            for (int i = 1; i < way.length; i++) {
                int v = sail[way[i - 1]][way[i]];
                left -= (int) Math.ceil(left * (v % 100) / 100.0 - 1e-9);
                weeks += v / 100;
            }
            int lost = n - left;
            boolean isBetter = best == null || lost < bestLost || (lost == bestLost && weeks < bestWeeks)
                || (lost == bestLost && weeks == bestWeeks && java.util.Arrays.compare(way, best) < 0);
            if (!isBetter) continue;
            best = way;
            bestLost = lost;
            bestWeeks = weeks;
        }
        String call = "road(" + port + ", " + n + ")";
        due(call + " lost", x.road(port, n, 0), best == null ? -3 : bestLost);
        due(call + " weeks", x.road(port, n, 1), best == null ? -3 : bestWeeks);
        for (int i = 0; i < 6; i++) due(call + " port " + i, x.road(port, n, 2 + i), best == null || i >= best.length ? -3 : best[i]);
    }

    private static void years() {
        FriarLists x = new FriarLists();
        int many = some(0, 8), range = some(1, 9);
        int[][] voyages = new int[many][];
        for (int i = 0; i < many; i++) {
            voyages[i] = new int[] {some(1, range), some(1, some(1, 9)), some(0, 3)};
            x.voyage(voyages[i][0], voyages[i][1], voyages[i][2]);
        }
        int coin = some(0, range * 8), best = 0;
        int[] bestWorth = new int[5];
        for (int bits = 0; bits < 1 << many; bits++) {
            int[] worth = new int[5];
            for (int i = 0; i < many; i++) {
                if ((bits >> i & 1) == 0) continue;
                worth[voyages[i][2]] += voyages[i][1];
                worth[4] -= voyages[i][0];
            }
            if (-worth[4] > coin || java.util.Arrays.compare(worth, bestWorth) <= 0) continue;
            best = bits;
            bestWorth = worth;
        }
        due("years(" + coin + ", -1)", x.years(coin, -1), best);
        due("years(" + coin + ", -2)", x.years(coin, -2), -bestWorth[4]);
        for (int rank = 0; rank < 4; rank++) due("years of rank " + rank, x.years(coin, rank), bestWorth[rank]);
    }

    private static void waits() {
        int ask = some(1, 99), drop = some(0, 30), keep = some(0, 30), patience = some(0, 6), loss = some(0, 99);
        int least = Integer.MAX_VALUE, week = 0, kept = 0;
        for (int w = 0; w <= patience; w++) {
            int cost = kept + Math.max(1, ask - w * drop);
            if (cost < least) {
                least = cost;
                week = w;
            }
            kept += keep;
        }
        if (kept + loss < least) {
            least = kept + loss;
            week = patience + 1;
        }
        String call = "waits(" + ask + ", " + drop + ", " + keep + ", " + patience + ", " + loss + ")";
        due(call + " cost", new FriarLists().waits(ask, drop, keep, patience, loss, 0), least);
        due(call + " week", new FriarLists().waits(ask, drop, keep, patience, loss, 1), week);
    }

    private static void questions() {
        FriarLists x = new FriarLists();
        x.weeks(100);
        int many = some(2, 16);
        for (int c = 0; c < many; c++) x.captive(some(1, 2), 100 * some(0, 5) + 10 * some(0, 3) + some(0, 4), some(1, 90), some(0, 100), 1);
        int meant = x.meant(1, -1);
        int best = -3, least = 99;
        for (int q = 0; q < 4; q++) {
            int[] groups = new int[10];
            for (int c = 0; c < many; c++) {
                int age = x.of(c, 9) / 10;
                if ((meant >> c & 1) == 1) groups[q == 3 ? age : x.of(c, 1 + q)]++;
            }
            int greatest = java.util.Arrays.stream(groups).max().getAsInt();
            if (Integer.bitCount(meant) > 1 && greatest < least) {
                best = q;
                least = greatest;
            }
        }
        due("question", x.question(1, -1), best);
    }
}
