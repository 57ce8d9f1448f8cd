import java.util.ArrayList;
import java.util.Arrays;
import java.util.HashMap;
import java.util.List;
import java.util.Map;
import java.util.function.IntFunction;
import java.util.function.Supplier;

/**
 * Each refusal that the document names, of several the first named, and that a refused call changes nothing: the same
 * calls behind it answer the same as without it.
 */
public final class RefusalsTest {
    private static final int BAD = -1, FULL = -2, NONE = -3, STATE = -4, NO_ROW = -9;
    private static final int NOTHING = -11, OUTSIDE = -12, OTHER_SORT = -13, BELOW_0 = -14;
    private static final int MIN = Integer.MIN_VALUE, MAX = Integer.MAX_VALUE;

    private interface Call {
        int on(FriarLists x);
    }

    /** How an object came to be as it is; all that are made by one are alike. */
    private record Made(String name, Supplier<FriarLists> maker) { }

    private static final Made FRESH = new Made("a new object", FriarLists::new);
    private static final Made BUSY = new Made("a busy object", RefusalsTest::busy);
    private static final Made EMPTY_TAPE = new Made("a busy object without a tape", RefusalsTest::busyWithoutTape);
    private static final Made ALL_FULL = new Made("a full object", RefusalsTest::full);

    private static int wrong = 0;
    private static int refusals = 0;
    private static int promise = 0;
    private static final Map<Made, List<int[]>> seenWithout = new HashMap<>();

    private static void refuses(String call, Made made, Call asked, int want) {
        refusals++;
        FriarLists x = made.maker.get();
        int got = asked.on(x);
        if (got != want) tell(call + " of " + made.name + " answered " + got + ", due is " + want);
        List<int[]> without = seenWithout.computeIfAbsent(made, m -> allSeen(m, y -> 0));
        List<int[]> behind = allSeen(made, asked);
        for (int look = 0; look < LOOKS.size(); look++) {
            if (!Arrays.equals(without.get(look), behind.get(look))) tell(call + " of " + made.name + " changes what look " + look + " sees");
        }
    }

    private static void tell(String what) {
        wrong++;
        System.out.println("promise " + promise + ": " + what);
    }

    /** The numbers just outside of those that are taken, and the extremes: refused by objects of each kind. */
    private static void outside(String number, int least, int most, IntFunction<Call> asked) {
        for (int v : new int[] {least - 1, most + 1, MIN, MAX}) {
            for (Made made : new Made[] {FRESH, BUSY, ALL_FULL}) refuses(number + " " + v, made, asked.apply(v), BAD);
        }
    }

    /** A thing that is numbered as it comes: a new object has none, a busy and a full one so many. */
    private static void noSuch(String thing, int busy, int full, IntFunction<Call> asked) {
        for (int v : new int[] {-1, MIN, MAX}) {
            for (Made made : new Made[] {FRESH, BUSY, ALL_FULL}) refuses(thing + " " + v, made, asked.apply(v), BAD);
        }
        refuses(thing + " 0", FRESH, asked.apply(0), BAD);
        refuses(thing + " " + busy, BUSY, asked.apply(busy), BAD);
        refuses(thing + " " + full, ALL_FULL, asked.apply(full), BAD);
    }

    private static void noCaptive(IntFunction<Call> asked) {
        noSuch("captive", 11, 16, asked);
    }

    private static void noName(IntFunction<Call> asked) {
        outside("name", 1, 387420488, asked);
        for (int v : new int[] {27, 27 * 27, 27 * 27 + 1, 27 * 28, 27 * 27 * 27 * 27 * 27, 387420489, 402321277}) {
            refuses("name " + v, BUSY, asked.apply(v), BAD);
        }
    }

    private static void noWeek(IntFunction<Call> asked) {
        outside("week", 0, 1999, asked);
    }

    private static void feed(FriarLists x, String text) {
        for (int from = 0; from < text.length(); from += 8) {
            int n = Math.min(8, text.length() - from);
            long eight = 0;
            for (int i = 0; i < n; i++) eight |= (long) text.charAt(from + i) << 8 * i;
            x.feed(eight, n);
        }
    }

    private static int read(FriarLists x, String text) {
        feed(x, text);
        return x.read();
    }

    // ---- objects that are refused something

    private static FriarLists busy() {
        FriarLists x = busyWithoutTape();
        feed(x, "rank 7; rank");
        return x;
    }

    /**
     * In week 4: captives 0 held, 1 bought, 2 at sea, 3 off, 4 home, 5 inland, 6 run, 7 dead, 8 held and barred,
     * 9 bought and aboard of ship 3, 10 held and without a proof.
     */
    private static FriarLists busyWithoutTape() {
        FriarLists x = new FriarLists();
        x.openBox(0, 7, 900);
        x.legacy(300);
        x.legacy(40);
        x.master(1, 2);
        x.lag(1, 3);
        x.premium(1, 50);
        x.sound(1, 3);
        for (int c = 0; c < 11; c++) x.captive(1 + c, 100 * (c % 6) + 10 * (c % 4) + c / 8 % 2, 20 + c, 0, 10 + c);
        x.news(0, 3);
        for (int c : new int[] {1, 2, 3, 4}) x.buy(c, c == 2 ? 0 : -1);
        x.buy(9, -1);
        for (int to = 5; to < 8; to++) x.lose(to, to);
        x.sails(1, 0, 250);
        x.sails(1, 3, 110);
        x.sails(0, 3, 120);
        x.rate(0, 0, 1, 1500);
        for (int s = 0; s < 3; s++) x.ship(1, 1);
        x.ship(2, 1);
        for (int s = 0; s < 3; s++) x.aboard(4 - s, s);
        x.aboard(9, 3);
        x.sail(0);
        x.weeks(2);
        x.sail(1);
        x.weeks(1);
        x.sail(2);
        x.sick(0, true);
        x.sick(2, true);
        x.weeks(1);
        x.news(-1, 1);
        read(x, "rank 0 if age<25; left 0 buys age>90; left 1 buys sick; bar if paid=18; proof 1;");
        x.proof(0, 2);
        x.proof(0, -1);
        x.proof(8, 1);
        x.alms(0, 5);
        x.alms(2, 40);
        x.openBox(2, 3, 30);
        x.alms(2, 7);
        for (int i = 0; i < 3; i++) x.voyage(10 + i, 1 + i, i);
        x.twice(1);
        x.mole(1, 999);
        x.sheet(0, 0, 5);
        x.sheet(1, 1, 3);
        x.sheet(2, 2, 6);
        int[] told = {3, 134, 40, 1, 77};
        for (int i = 0; i < 5; i++) x.put(2, i, told[i]);
        x.put(1, 2, -9);
        x.shelf(0, 0, 1);
        x.shelf(1, 3, 1);
        x.shelf(2, 4, 2);
        x.keep();
        x.alms(3, 9);
        x.premium(2, 5);
        x.act(0, 3, 7);
        return x;
    }

    /** Every list, and the tape, is full. */
    private static FriarLists full() {
        FriarLists x = new FriarLists();
        for (int c = 0; c < 16; c++) x.captive(1 + c, 10 * (c % 4), 20, 0, 5);
        for (int i = 0; i < 12; i++) x.news(i - 1, 1);
        for (int i = 0; i < 24; i++) x.alms(i % 6, 1 + i);
        for (int i = 0; i < 12; i++) x.openBox(i % 6, 7, i);
        for (int i = 0; i < 6; i++) x.legacy(10);
        for (int i = 0; i < 8; i++) read(x, "rank " + i + ";");
        for (int i = 0; i < 20; i++) x.proof(i % 16, i % 6);
        for (int i = 0; i < 4; i++) x.ship(1 + i, 2);
        for (int i = 0; i < 8; i++) x.voyage(1, 1, i % 4);
        for (int i = 0; i < 4; i++) x.sheet(i, i, 40);
        feed(x, "rank 1;".repeat(35) + "     ");
        x.mole(1, 99999);
        x.keep();
        return x;
    }

    // ---- what can be seen: looks of so few calls that with those ahead of them none is behind the 512th

    private interface Look {
        int at(FriarLists x, int i);
    }

    private record Looking(int calls, Look look) { }

    private static final List<Looking> LOOKS = List.of(
        new Looking(28, FriarLists::many),
        new Looking(224, (x, i) -> x.of(i / 14, i % 14)),
        new Looking(160, RefusalsTest::rulings),
        new Looking(172, RefusalsTest::texts),
        new Looking(36, RefusalsTest::boxes),
        new Looking(69, RefusalsTest::settings),
        new Looking(32, (x, i) -> i < 16 ? x.twice(i) : x.proof(i - 16, -1)),
        new Looking(125, RefusalsTest::ways),
        new Looking(101, RefusalsTest::host),
        new Looking(200, RefusalsTest::rowsOfSheets),
        new Looking(119, RefusalsTest::hence),
        new Looking(100, RefusalsTest::lists),
        new Looking(180, RefusalsTest::keptThings));

    private static List<int[]> allSeen(Made made, Call ahead) {
        List<int[]> seen = new ArrayList<>();
        for (Looking looking : LOOKS) {
            FriarLists x = made.maker.get();
            ahead.on(x);
            int[] answers = new int[looking.calls];
            for (int i = 0; i < answers.length; i++) answers[i] = looking.look.at(x, i);
            seen.add(answers);
        }
        return seen;
    }

    private static int rulings(FriarLists x, int i) {
        int c = i / 10, week = i % 2 == 0 ? 4 : 1999;
        switch (i % 10 / 2) {
            case 0: return x.ask(c, week);
            case 1: return x.rank(c, week);
            case 2: return x.barred(c, week);
            case 3: return x.may(0, c, week);
            default: return x.may(1, c, week);
        }
    }

    private static int texts(FriarLists x, int i) {
        if (i < 160) return x.version(i / 20, i % 20 < 2 ? i % 20 : i % 20 < 11 ? 8 + i % 20 : 19 + i % 20);
        return i == 160 ? x.many(11) : i == 161 ? x.read() : x.version(x.many(6) - 1, i - 153);
    }

    private static int boxes(FriarLists x, int i) {
        if (i < 12) return x.lack(i);
        if (i < 30) return x.legacyOf((i - 12) / 3, i % 3);
        return x.shortSince(i - 30);
    }

    /** Settings tell what they were as they are set. */
    private static int settings(FriarLists x, int i) {
        if (i < 5) return x.master(i, 1);
        if (i < 9) return x.lag(i - 4, 1);
        if (i < 13) return x.premium(i - 9, 0);
        if (i < 39) return x.sound(i - 12, 0);
        int from = (i - 39) % 6 / 2, to = (from + 1 + i % 2) % 3;
        return x.rate((i - 39) / 6, from, to, 1000);
    }

    private static int ways(FriarLists x, int i) {
        if (i < 20) return sailsOf(x, i / 4, i % 4 < i / 4 ? i % 4 : i % 4 + 1);
        if (i < 32) return x.brought(1 + i % 4, 0, i % 3, 9999);
        if (i < 92) return x.road(1 + i % 4, 7, (i - 32) / 4 % 8);
        if (i < 104) return x.years(9 * (i - 92), i % 6 - 2);
        return x.key(1 + (i - 104));
    }

    private static int sailsOf(FriarLists x, int port, int other) {
        int was = x.sails(port, other, 0);
        x.sails(port, other, was);
        return was;
    }

    private static int host(FriarLists x, int i) {
        if (i < 24) return x.row(i / 2, i % 2);
        if (i < 28) return x.judge(i - 23, 999);
        if (i < 58) return x.trace(i - 28);
        if (i < 98) return x.taken((i - 58) / 10, i % 10 < 5 ? i % 10 : 5 + i % 10);
        return x.act(i % 4, i % 4, i);
    }

    private static int rowsOfSheets(FriarLists x, int i) {
        return x.item(i / 50, i / 10 % 5, i % 10 * 4);
    }

    /** Week by week, in what state they are. */
    private static int hence(FriarLists x, int i) {
        if (i % 17 == 0) return x.weeks(1 + i / 34);
        return x.of(i % 17 - 1, 6);
    }

    /** Each list goes on where it was. */
    private static int lists(FriarLists x, int i) {
        switch (i % 10) {
            case 0: return x.captive(2, 10, 30, 0, 9);
            case 1: return x.news(-1, 1);
            case 2: return x.alms(i / 10 % 6, 1);
            case 3: return x.legacy(i + 1);
            case 4: return x.openBox(i / 10 % 6, 3, 4);
            case 5: return x.lack(x.many(4) - 1);
            case 6: return read(x, i % 20 < 10 ? "proof 3" : "; proof 3;");
            case 7: return x.voyage(1, 1, 1);
            case 8: return x.question(1 + i / 10, -1);
            default: return x.meant(1 + i / 10, -1);
        }
    }

    private static int keptThings(FriarLists x, int i) {
        if (i == 0) return x.again();
        if (i < 29) return x.many(i - 1);
        if (i < 35) return x.shortSince(i - 29);
        if (i < 39) return x.premium(i - 35, 0);
        if (i < 166) return x.of((i - 39) / 8, 6 + i % 8);
        return x.ask(i - 166, 50);
    }

    // ---- the refusals, in the document's order

    public static void main(String[] args) {
        weeksAndCaptives();
        newsAndNames();
        boxesAndLegacies();
        texts();
        asksOfRules();
        coinsAndSails();
        moles();
        buys();
        ships();
        sails();
        voyages();
        sheets();
        shelves();
        kept();
        System.out.println(wrong == 0 ? refusals + " refusals are as due, and change nothing" : wrong + " things are wrong");
        if (wrong != 0) System.exit(1);
    }

    private static void weeksAndCaptives() {
        promise = 2;
        outside("weeks", 1, 200, v -> x -> x.weeks(v));
        Made late = new Made("a busy object late", () -> {
            FriarLists x = busy();
            for (int i = 0; i < 9; i++) x.weeks(200);
            x.weeks(190);
            x.sick(10, true);
            return x;
        });
        for (int n : new int[] {6, 7, 200}) refuses("weeks " + n, late, x -> x.weeks(n), STATE);
        refuses("weeks 201", late, x -> x.weeks(201), BAD);

        promise = 3;
        noName(v -> x -> x.captive(v, 0, 20, 0, 1));
        outside("who", 0, 534, v -> x -> x.captive(1, v, 20, 0, 1));
        for (int who : new int[] {5, 9, 40, 49, 90, 535, 540, 594, 599, 600, 1000, -100}) refuses("who " + who, BUSY, x -> x.captive(1, who, 20, 0, 1), BAD);
        outside("age", 1, 90, v -> x -> x.captive(1, 0, v, 0, 1));
        for (int week : new int[] {-1, 5, 1999, 2000, MIN, MAX}) refuses("week " + week, BUSY, x -> x.captive(1, 0, 20, week, 1), BAD);
        for (int week : new int[] {-1, 1}) refuses("week " + week, ALL_FULL, x -> x.captive(1, 0, 20, week, 1), BAD);
        outside("paid", 1, 999, v -> x -> x.captive(1, 0, 20, 0, v));
        refuses("captive", ALL_FULL, x -> x.captive(1, 0, 20, 0, 1), FULL);

        promise = 4;
        noCaptive(v -> x -> x.of(v, 0));
        outside("what", 0, 13, v -> x -> x.of(0, v));

        promise = 5;
        for (boolean is : new boolean[] {true, false}) {
            noCaptive(v -> x -> x.sick(v, is));
            for (int c = 4; c < 8; c++) {
                int of = c;
                refuses("sick of captive " + c, BUSY, x -> x.sick(of, is), STATE);
            }
        }
        promise = 6;
        for (boolean is : new boolean[] {true, false}) noCaptive(v -> x -> x.turned(v, is));

        promise = 7;
        noCaptive(v -> x -> x.lose(v, 5));
        outside("to", 5, 7, v -> x -> x.lose(0, v));
        for (int c : new int[] {1, 2, 3, 4, 5, 6, 7, 9}) {
            for (int to = 5; to < 8; to++) {
                int lost = to;
                refuses("lose captive " + c, BUSY, x -> x.lose(c, lost), STATE);
            }
            refuses("lose captive " + c + ", to none", BUSY, x -> x.lose(c, 4), BAD);
        }

        promise = 8;
        outside("master", 0, 4, v -> x -> x.master(v, 3));
        outside("port", 1, 4, v -> x -> x.master(0, v));
    }

    private static void newsAndNames() {
        promise = 9;
        for (int v : new int[] {-2, MIN, MAX}) refuses("news of captive " + v, BUSY, x -> x.news(v, 1), BAD);
        refuses("news of captive 0", FRESH, x -> x.news(0, 1), BAD);
        refuses("news of captive 11", BUSY, x -> x.news(11, 1), BAD);
        refuses("news of captive 16", ALL_FULL, x -> x.news(16, 1), BAD);
        outside("weight", 1, 9, v -> x -> x.news(-1, v));
        refuses("news", ALL_FULL, x -> x.news(-1, 1), FULL);

        promise = 10;
        outside("port", 1, 4, v -> x -> x.lag(v, 7));
        outside("lag", 1, 20, v -> x -> x.lag(1, v));
        promise = 11;
        outside("trade", 0, 3, v -> x -> x.premium(v, 7));
        outside("premium", 0, 500, v -> x -> x.premium(1, v));
        promise = 12;
        noCaptive(v -> x -> x.ask(v, 0));
        noWeek(v -> x -> x.ask(0, v));

        promise = 13;
        outside("letter", 1, 26, v -> x -> x.sound(v, 2));
        outside("class", 0, 5, v -> x -> x.sound(1, v));
        promise = 14;
        noName(v -> x -> x.key(v));
        promise = 15;
        noName(v -> x -> x.meant(v, -1));
        outside("parish", -1, 5, v -> x -> x.meant(1, v));
        promise = 16;
        noName(v -> x -> x.question(v, -1));
        outside("parish", -1, 5, v -> x -> x.question(1, v));
        refuses("question of nobody", FRESH, x -> x.question(1, -1), NONE);
        refuses("question of one", BUSY, x -> x.question(4, 3), NONE);
        refuses("question of none of that parish", BUSY, x -> x.question(2, 3), NONE);
    }

    private static void boxesAndLegacies() {
        promise = 17;
        outside("parish", 0, 5, v -> x -> x.alms(v, 1));
        outside("alms", 1, 99, v -> x -> x.alms(0, v));
        refuses("alms", ALL_FULL, x -> x.alms(0, 1), FULL);
        promise = 18;
        outside("parish", 0, 5, v -> x -> x.openBox(v, 7, 1));
        outside("keys", 0, 7, v -> x -> x.openBox(0, v, 1));
        outside("found", 0, 9999, v -> x -> x.openBox(0, 7, v));
        refuses("openBox", ALL_FULL, x -> x.openBox(0, 7, 1), FULL);
        promise = 19;
        noSuch("opening", 2, 12, v -> x -> x.lack(v));
        promise = 20;
        outside("parish", 0, 5, v -> x -> x.shortSince(v));
        refuses("shortSince without an opening", BUSY, x -> x.shortSince(1), NONE);
        refuses("shortSince without a lack", BUSY, x -> x.shortSince(0), NONE);
        promise = 21;
        outside("legacy", 1, 9999, v -> x -> x.legacy(v));
        refuses("legacy", ALL_FULL, x -> x.legacy(1), FULL);
        promise = 22;
        noSuch("legacy", 2, 6, v -> x -> x.legacyOf(v, 0));
        outside("what", 0, 2, v -> x -> x.legacyOf(0, v));
    }

    /** THE TAPE is used up by read(), also where it refuses: nothing else is otherwise than without a tape. */
    private static void texts() {
        promise = 23;
        outside("bytes", 1, 8, v -> x -> x.feed(0x3b3b3b3b3b3b3b3bL, v));
        for (int n = 1; n <= 8; n++) {
            int bytes = n;
            refuses("feed " + n, ALL_FULL, x -> x.feed(0, bytes), FULL);
            Made nearly = new Made("a tape of " + (251 - n), () -> {
                FriarLists x = new FriarLists();
                feed(x, " ".repeat(251 - bytes));
                return x;
            });
            refuses("feed " + n, nearly, x -> x.feed(0x6b6b6b6b6b6b6b6bL, bytes), FULL);
        }
        promise = 24;
        String[] texts = {";", "rank", "rank 1; rank 10;", "bar if (((((sick)))));", "left 0 buys sick; proof 1; bar"};
        int[] faults = {0, 4, 13, 11, 30};
        for (int i = 0; i < texts.length; i++) {
            String text = texts[i];
            refuses("read of " + text, EMPTY_TAPE, x -> read(x, text), -100 - faults[i]);
        }
        Made eight = new Made("a full object without a tape", () -> {
            FriarLists x = full();
            x.read();
            return x;
        });
        refuses("read of a ninth", eight, x -> read(x, "bar if not sick; proof 9; rank 0;"), FULL);
        refuses("read of a ninth, of no line", eight, FriarLists::read, FULL);
        refuses("read of a ninth with a fault", eight, x -> read(x, "bar if not sick; proof 9; rank 0"), -132);

        promise = 25;
        noSuch("version", 1, 8, v -> x -> x.version(v, 0));
        for (int what : new int[] {-1, 2, 9, 15, 19, 29, 35, 39, MIN, MAX}) refuses("version's " + what, BUSY, x -> x.version(0, what), BAD);
        for (int what : new int[] {11, 31}) refuses("version's " + what, ALL_FULL, x -> x.version(7, what), BAD);
    }

    private static void asksOfRules() {
        promise = 26;
        noCaptive(v -> x -> x.rank(v, 0));
        noWeek(v -> x -> x.rank(0, v));
        promise = 27;
        noCaptive(v -> x -> x.barred(v, 0));
        noWeek(v -> x -> x.barred(0, v));
        promise = 28;
        noSuch("legacy", 2, 6, v -> x -> x.may(v, 0, 0));
        noCaptive(v -> x -> x.may(0, v, 0));
        noWeek(v -> x -> x.may(0, 0, v));
        promise = 29;
        noCaptive(v -> x -> x.proof(v, 0));
        outside("parish", -1, 5, v -> x -> x.proof(0, v));
        for (int by = -1; by < 6; by++) {
            int parish = by;
            refuses("proof by " + by, ALL_FULL, x -> x.proof(0, parish), FULL);
        }
    }

    private static void coinsAndSails() {
        promise = 30;
        outside("port", 0, 4, v -> x -> x.rate(v, 0, 1, 7));
        outside("coin", 0, 2, v -> x -> x.rate(0, v, 1, 7));
        outside("coin", 0, 2, v -> x -> x.rate(0, 1, v, 7));
        for (int coin = 0; coin < 3; coin++) {
            int same = coin;
            refuses("rate of coin " + coin + " to itself", BUSY, x -> x.rate(0, same, same, 7), BAD);
        }
        outside("rate", 1, 3000, v -> x -> x.rate(0, 0, 1, v));
        promise = 31;
        outside("port", 0, 4, v -> x -> x.sails(v, 2, 199));
        outside("other port", 0, 4, v -> x -> x.sails(2, v, 199));
        for (int p = 0; p < 5; p++) {
            int port = p;
            refuses("sails of port " + p + " to itself", BUSY, x -> x.sails(port, port, 199), BAD);
        }
        outside("sails", 0, 999, v -> x -> x.sails(0, 1, v));
        promise = 32;
        outside("port", 1, 4, v -> x -> x.brought(v, 0, 1, 1));
        outside("coin", 0, 2, v -> x -> x.brought(1, v, 1, 1));
        outside("coin", 0, 2, v -> x -> x.brought(1, 1, v, 1));
        outside("brought", 1, 99999, v -> x -> x.brought(1, 0, 1, v));
        for (int port : new int[] {2, 4}) refuses("brought to " + port, BUSY, x -> x.brought(port, 0, 0, 1), NONE);
        promise = 33;
        outside("port", 1, 4, v -> x -> x.road(v, 1, 0));
        outside("many", 1, 99, v -> x -> x.road(1, v, 0));
        for (int what : new int[] {-1, MIN}) refuses("road's " + what, BUSY, x -> x.road(1, 1, what), BAD);
        refuses("road's " + -1 + " without a road", BUSY, x -> x.road(2, 1, -1), BAD);
        for (int what = 0; what < 8; what++) {
            int asked = what;
            for (int port : new int[] {2, 4}) refuses("road's " + what + " from " + port, BUSY, x -> x.road(port, 1, asked), NONE);
        }
        for (int what : new int[] {4, 5, 6, 7, MAX}) refuses("road's port " + what, BUSY, x -> x.road(1, 1, what), NONE);
    }

    private static void moles() {
        promise = 34;
        outside("port", 1, 4, v -> x -> x.mole(v, 5));
        outside("coin", 0, 99999, v -> x -> x.mole(1, v));
        promise = 35;
        Made rows = new Made("an object with twelve rows", () -> {
            FriarLists x = new FriarLists();
            for (int c = 0; c < 16; c++) x.captive(1, 0, 20, 0, 5);
            x.mole(1, 99999);
            return x;
        });
        for (int v : new int[] {-1, 12, MIN, MAX}) {
            refuses("row " + v, rows, x -> x.row(v, 0), NO_ROW);
            refuses("alterRow " + v, rows, x -> x.alterRow(v, 0, 9), NO_ROW);
        }
        for (int what : new int[] {-1, 2, MIN, MAX}) {
            refuses("row's " + what, rows, x -> x.row(0, what), NO_ROW);
            refuses("alterRow's " + what, rows, x -> x.alterRow(0, what, 9), NO_ROW);
        }
        refuses("row of none", FRESH, x -> x.row(0, 0), NO_ROW);
        refuses("alterRow of none", FRESH, x -> x.alterRow(0, 1, 5), NO_ROW);
        promise = 37;
        outside("port", 1, 4, v -> x -> x.judge(v, 5));
        outside("coin", 0, 99999, v -> x -> x.judge(1, v));
    }

    private static void buys() {
        promise = 38;
        noCaptive(v -> x -> x.buy(v, -1));
        for (int from : new int[] {-2, 2, MIN, MAX}) refuses("buy from " + from, BUSY, x -> x.buy(0, from), BAD);
        refuses("buy from 0 without a legacy", FRESH, x -> x.buy(0, 0), BAD);
        refuses("buy of one not held from none", BUSY, x -> x.buy(1, 2), BAD);
        for (int c : new int[] {1, 2, 3, 4, 5, 6, 7, 9}) {
            for (int from = -1; from < 2; from++) {
                int payer = from;
                refuses("buy captive " + c + ", not held, from " + from, BUSY, x -> x.buy(c, payer), STATE);
            }
        }
        refuses("buy one who is barred", BUSY, x -> x.buy(8, -1), STATE);
        refuses("buy one with too few proofs", BUSY, x -> x.buy(10, -1), STATE);
        refuses("buy from a legacy that may not", BUSY, x -> x.buy(0, 0), STATE);
        Made poor = new Made("a poor object", () -> {
            FriarLists x = new FriarLists();
            x.captive(1, 0, 20, 0, 41);
            x.captive(1, 0, 20, 0, 999);
            x.legacy(40);
            x.openBox(0, 7, 40);
            return x;
        });
        for (int c = 0; c < 2; c++) {
            int of = c;
            refuses("buy from a chest that hasn't so much", poor, x -> x.buy(of, -1), STATE);
            refuses("buy from a legacy that hasn't so much", poor, x -> x.buy(of, 0), STATE);
        }
        promise = 39;
        noCaptive(v -> x -> x.twice(v));
        promise = 40;
        outside("ask", 1, 9999, v -> x -> x.waits(v, 1, 1, 1, 1, 0));
        outside("drop", 0, 999, v -> x -> x.waits(1, v, 1, 1, 1, 0));
        outside("keep", 0, 999, v -> x -> x.waits(1, 1, v, 1, 1, 0));
        outside("patience", 0, 6, v -> x -> x.waits(1, 1, 1, v, 1, 0));
        outside("loss", 0, 9999, v -> x -> x.waits(1, 1, 1, 1, v, 0));
        outside("what", 0, 1, v -> x -> x.waits(1, 1, 1, 1, 1, v));
    }

    /** Ship 0 of two in port 1 has sailed, 1 and 2 not; 3 is in port 2. Captives 0 to 3 are bought, 4 is held, 5 far. */
    private static FriarLists harbour() {
        FriarLists x = new FriarLists();
        x.openBox(0, 7, 999);
        x.master(1, 2);
        for (int c = 0; c < 6; c++) x.captive(1, c == 5 ? 1 : 0, 20, 0, 5);
        for (int c : new int[] {0, 1, 2, 3, 5}) x.buy(c, -1);
        for (int s = 0; s < 3; s++) x.ship(1, 1 + s % 2);
        x.ship(2, 16);
        x.sails(0, 1, 300);
        x.aboard(0, 0);
        x.sail(0);
        x.aboard(1, 2);
        return x;
    }

    private static final Made HARBOUR = new Made("a harbour", RefusalsTest::harbour);

    private static void ships() {
        promise = 41;
        outside("port", 1, 4, v -> x -> x.ship(v, 1));
        outside("pass", 1, 16, v -> x -> x.ship(1, v));
        refuses("ship", ALL_FULL, x -> x.ship(1, 1), FULL);
        refuses("ship", BUSY, x -> x.ship(4, 16), FULL);
        promise = 42;
        noCaptive(v -> x -> x.aboard(v, 0));
        noSuch("ship", 4, 4, v -> x -> x.aboard(0, v));
        refuses("aboard of no ship, not bought", BUSY, x -> x.aboard(0, 4), BAD);
        for (int c : new int[] {0, 2, 3, 4, 5, 6, 7, 8}) refuses("aboard, not bought: captive " + c, BUSY, x -> x.aboard(c, 3), STATE);
        refuses("aboard, on this ship", HARBOUR, x -> x.aboard(1, 2), STATE);
        refuses("aboard, on another ship", HARBOUR, x -> x.aboard(1, 1), STATE);
        refuses("aboard, of a master elsewhere", HARBOUR, x -> x.aboard(5, 1), STATE);
        refuses("aboard in another port than the master's", HARBOUR, x -> x.aboard(2, 3), STATE);
        refuses("aboard of a ship that has sailed", HARBOUR, x -> x.aboard(2, 0), STATE);
        Made laden = new Made("a laden ship", () -> {
            FriarLists x = harbour();
            x.aboard(2, 1);
            x.aboard(3, 1);
            x.buy(4, -1);
            return x;
        });
        for (int s = 1; s < 3; s++) {
            int ship = s;
            refuses("aboard above the pass of ship " + s, laden, x -> x.aboard(4, ship), STATE);
        }
        Made sixteen = new Made("a ship with sixteen", () -> {
            FriarLists x = new FriarLists();
            x.openBox(0, 7, 999);
            x.ship(1, 16);
            x.ship(1, 15);
            for (int c = 0; c < 16; c++) x.captive(1, 0, 20, 0, 5);
            for (int c = 0; c < 16; c++) x.buy(c, -1);
            for (int c = 0; c < 15; c++) x.aboard(c, 1);
            return x;
        });
        refuses("aboard above a pass of fifteen", sixteen, x -> x.aboard(15, 1), STATE);
    }

    private static void sails() {
        promise = 43;
        noSuch("ship", 4, 4, v -> x -> x.sail(v));
        refuses("sail again", HARBOUR, x -> x.sail(0), STATE);
        refuses("sail with nobody", HARBOUR, x -> x.sail(1), STATE);
        refuses("sail with nobody, without a road", HARBOUR, x -> x.sail(3), STATE);
        refuses("sail without a road", BUSY, x -> x.sail(3), NONE);
        Made home = new Made("a harbour whose ship came", () -> {
            FriarLists x = harbour();
            x.weeks(9);
            x.sails(0, 1, 0);
            return x;
        });
        refuses("sail again, home, and without a road", home, x -> x.sail(0), STATE);
        refuses("sail, the sails are no more", home, x -> x.sail(2), NONE);
    }

    private static void voyages() {
        promise = 44;
        outside("cost", 1, 999, v -> x -> x.voyage(v, 1, 1));
        outside("brings", 1, 9, v -> x -> x.voyage(1, v, 1));
        outside("rank", 0, 3, v -> x -> x.voyage(1, 1, v));
        refuses("voyage", ALL_FULL, x -> x.voyage(1, 1, 1), FULL);
        promise = 45;
        outside("coin", 0, 99999, v -> x -> x.years(v, 0));
        outside("what", -2, 3, v -> x -> x.years(0, v));
    }

    private static void sheets() {
        promise = 46;
        outside("sheet", 0, 3, v -> x -> x.sheet(v, 0, 5));
        outside("sort", -1, 4, v -> x -> x.sheet(0, v, 5));
        for (int sort = -1; sort < 5; sort++) {
            int of = sort;
            for (int n : new int[] {41, MAX}) refuses("sheet of " + n, BUSY, x -> x.sheet(0, of, n), BAD);
            if (sort == -1) continue;
            for (int n : new int[] {-1, MIN}) refuses("sheet of " + n, BUSY, x -> x.sheet(0, of, n), BELOW_0);
        }
        for (int n : new int[] {-1, MIN}) {
            refuses("no sheet of " + n, BUSY, x -> x.sheet(4, 0, n), BAD);
            refuses("no sort of " + n, BUSY, x -> x.sheet(0, 5, n), BAD);
        }
        promise = 47;
        outside("sheet", 0, 3, v -> x -> x.put(v, 0, 5));
        for (int i : new int[] {-1, 5, 40, MIN, MAX}) {
            refuses("put " + i, BUSY, x -> x.put(0, i, 5), OUTSIDE);
            refuses("put " + i + " of a missing one", BUSY, x -> x.put(3, i, 5), NOTHING);
            refuses("put " + i + " of no sheet", BUSY, x -> x.put(4, i, 5), BAD);
        }
        refuses("put of a missing one", BUSY, x -> x.put(3, 0, 5), NOTHING);
        promise = 48;
        outside("sheet", 0, 3, v -> x -> x.item(v, 0, 0));
        outside("sort", 0, 4, v -> x -> x.item(0, v, 0));
        for (int i : new int[] {-1, 5, 40, MIN, MAX}) {
            refuses("item " + i, BUSY, x -> x.item(0, 0, i), OUTSIDE);
            refuses("item " + i + " of a missing one", BUSY, x -> x.item(3, 0, i), NOTHING);
            for (int sort = 1; sort < 5; sort++) {
                int of = sort;
                refuses("item " + i + " of another sort", BUSY, x -> x.item(0, of, i), OTHER_SORT);
            }
            refuses("item " + i + " of no sort", BUSY, x -> x.item(3, 5, i), BAD);
        }
        promise = 49;
        outside("sheet", 0, 3, v -> x -> x.comes(v, 0));
        for (int i : new int[] {-1, 0, 2, 40, MIN, MAX}) {
            for (int s = 0; s < 2; s++) {
                int sheet = s;
                refuses("comes from another sort at " + i, BUSY, x -> x.comes(sheet, i), OTHER_SORT);
            }
            refuses("comes from a missing one at " + i, BUSY, x -> x.comes(3, i), NOTHING);
            if (i != 0) refuses("comes at " + i, BUSY, x -> x.comes(2, i), OUTSIDE);
        }
        refuses("comes of no captive", BUSY, x -> x.comes(2, 1), BAD);
        refuses("comes of no name", ALL_FULL, x -> x.comes(2, 0), BAD);
        Made told = new Made("a full object with one more on a sheet", () -> {
            FriarLists x = full();
            int[] of = {3, 134, 40, 0, 77};
            for (int i = 0; i < 5; i++) x.put(2, 35 + i, of[i]);
            return x;
        });
        refuses("comes of a 17th", told, x -> x.comes(2, 35), FULL);
        refuses("comes outside of a 17th", told, x -> x.comes(2, 36), OUTSIDE);
    }

    private static void shelves() {
        promise = 50;
        outside("shelf", 0, 3, v -> x -> x.shelf(v, 5, 0));
        outside("what", 0, 5, v -> x -> x.shelf(0, v, 0));
        noSuch("alms", 4, 24, v -> x -> x.shelf(0, 0, v));
        noSuch("legacy", 2, 6, v -> x -> x.shelf(0, 1, v));
        noSuch("ship", 4, 4, v -> x -> x.shelf(0, 2, v));
        noSuch("captive", 11, 16, v -> x -> x.shelf(0, 3, v));
        outside("sheet", 0, 3, v -> x -> x.shelf(0, 4, v));
        promise = 51;
        outside("shelf", 0, 3, v -> x -> x.taken(v, 0));
        outside("kind", 0, 14, v -> x -> x.taken(0, v));
        for (int as = 7; as < 10; as++) {
            int kind = as;
            for (int s = 0; s < 4; s++) {
                int shelf = s;
                refuses("taken for " + as, BUSY, x -> x.taken(shelf, kind), BAD);
            }
        }
        for (int as : new int[] {2, 3, 4, 5, 6, 10, 14}) refuses("alms taken for " + as, BUSY, x -> x.taken(0, as), OTHER_SORT);
        for (int as : new int[] {0, 6, 10, 11, 13, 14}) refuses("a row taken for " + as, BUSY, x -> x.taken(2, as), OTHER_SORT);
        for (int as : new int[] {0, 6, 10, 14}) refuses("nothing taken for " + as, BUSY, x -> x.taken(3, as), NOTHING);
        promise = 53;
        for (int i : new int[] {-1, 4, 29, 30, MIN, MAX}) refuses("trace " + i, BUSY, x -> x.trace(i), NONE);
        refuses("trace of no act", FRESH, x -> x.trace(0), NONE);
    }

    private static void kept() {
        promise = 54;
        outside("many of", 0, 27, v -> x -> x.many(v));
        for (int what = 15; what < 20; what++) {
            int of = what;
            refuses("many of " + what, BUSY, x -> x.many(of), BAD);
        }
        promise = 56;
        refuses("again", FRESH, FriarLists::again, NONE);
    }
}
