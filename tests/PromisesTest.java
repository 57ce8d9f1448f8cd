import java.util.function.IntUnaryOperator;

/** Each promise by ordinary calls, the edges that the document names, and wrong calls. */
public final class PromisesTest {
    private static int wrong = 0;
    private static int promise = 0;
    private static int asked = 0;

    private static void due(String call, int got, int want) {
        asked++;
        if (got == want) return;
        wrong++;
        System.out.println("promise " + promise + ": " + call + " answered " + got + ", due is " + want);
    }

    /** A call that takes the numbers least to most, and refuses those just outside and the extremes. */
    private static void takes(String call, int least, int most, IntUnaryOperator asked) {
        for (int v : new int[] {least, most}) {
            int got = asked.applyAsInt(v);
            due(call + " with " + v + " is taken", got == -1 ? 0 : 1, 1);
        }
        for (int v : new int[] {least - 1, most + 1, Integer.MIN_VALUE, Integer.MAX_VALUE}) {
            due(call + " with " + v, asked.applyAsInt(v), -1);
        }
    }

    private static int name(String letters) {
        int number = 0;
        for (char c : letters.toCharArray()) number = number * 27 + c - 'a' + 1;
        return number;
    }

    private static void feed(FriarLists x, String text) {
        for (int i = 0; i < text.length(); i++) x.feed(text.charAt(i), 1);
    }

    private static int read(FriarLists x, String text) {
        feed(x, text);
        return x.read();
    }

    /** A captive of 20 years, taken in week 0, who cost so much. */
    private static int one(FriarLists x, int who, int paid) {
        return x.captive(name("joan"), who, 20, 0, paid);
    }

    public static void main(String[] args) {
        newObject();
        weeksAndCaptives();
        newsAndAsks();
        names();
        boxes();
        rules();
        faults();
        coinsAndSails();
        buying();
        ships();
        voyages();
        sheets();
        papers();
        kept();
        System.out.println(wrong == 0 ? asked + " answers are as due" : wrong + " answers are not as due");
        if (wrong != 0) System.exit(1);
    }

    private static void newObject() {
        promise = 1;
        FriarLists x = new FriarLists();
        for (int what = 0; what <= 14; what++) due("many(" + what + ")", x.many(what), 0);
        for (int state = 20; state <= 27; state++) due("many(" + state + ")", x.many(state), 0);
        due("of(0, 0)", x.of(0, 0), -1);
        due("again()", x.again(), -3);
        for (int master = 0; master < 5; master++) due("master of a new object", x.master(master, 2), 1);
        for (int port = 1; port < 5; port++) due("lag of a new object", x.lag(port, 20), 4);
        for (int trade = 0; trade < 4; trade++) due("premium of a new object", x.premium(trade, 1), 0);
        String classes = "01230120022455012423011202";
        for (int letter = 1; letter <= 26; letter++) due("sound of " + letter, x.sound(letter, 0), classes.charAt(letter - 1) - '0');
        due("row(0, 0)", x.row(0, 0), -9);
        due("judge(1, 0)", x.judge(1, 0), 0);
        x.alms(0, 5);
        for (int shelf = 0; shelf < 4; shelf++) due("taken from a new shelf", x.taken(shelf, 0), -11);
        for (int sheet = 0; sheet < 4; sheet++) due("put into a new sheet", x.put(sheet, 0, 0), -11);
    }

    private static void weeksAndCaptives() {
        promise = 2;
        FriarLists x = new FriarLists();
        for (int n : new int[] {0, -1, 201, Integer.MIN_VALUE, Integer.MAX_VALUE}) due("weeks(" + n + ")", x.weeks(n), -1);
        for (int i = 1; i <= 9; i++) due("weeks(200)", x.weeks(200), 200 * i);
        due("weeks(200) above 1999", x.weeks(200), -4);
        due("weeks(199)", x.weeks(199), 1999);
        due("weeks(1) above 1999", x.weeks(1), -4);
        due("many(0)", x.many(0), 1999);

        promise = 3;
        FriarLists y = new FriarLists();
        y.weeks(60);
        takes("age", 1, 90, v -> y.captive(1, 0, v, 0, 1));
        takes("week", 0, 60, v -> y.captive(1, 0, 1, v, 1));
        takes("paid", 1, 999, v -> y.captive(1, 0, 1, 0, v));
        takes("name", 1, 387420488, v -> y.captive(v, 0, 1, 0, 1));
        due("captive of 26", y.captive(26, 534, 1, 0, 1), 8);
        for (int v : new int[] {27, 27 * 27, 27 * 27 + 1, 0, -28, 27 * 28}) due("captive of name " + v, y.captive(v, 0, 1, 0, 1), -1);
        for (int who : new int[] {-1, 5, 9, 40, 94, 600, 1000, -100}) due("captive " + who, y.captive(1, who, 1, 0, 1), -1);
        due("captive 400", y.captive(1, 400, 1, 0, 1), 9);
        for (int i = 10; i < 16; i++) due("captive " + i, y.captive(1, 0, 1, 0, 1), i);
        due("captive 17th", y.captive(1, 0, 1, 0, 1), -2);
        due("captive 17th, of no name", y.captive(27, 0, 1, 0, 1), -1);
        due("many(1)", y.many(1), 16);

        promise = 4;
        FriarLists z = new FriarLists();
        z.weeks(104);
        due("captive", z.captive(name("zoe"), 321, 38, 1, 77), 0);
        int[] due = {name("zoe"), 3, 2, 1, 1, 77, 0, -3, 0, 39, 0, -3, -3, 0};
        for (int what = 0; what < 14; what++) due("of(0, " + what + ")", z.of(0, what), due[what]);
        due("of(0, 14)", z.of(0, 14), -1);
        due("of(0, -1)", z.of(0, -1), -1);
        due("of(1, 0)", z.of(1, 0), -1);
        due("of(-1, 0)", z.of(-1, 0), -1);
        z.weeks(1);
        due("of(0, 9) 104 weeks on", z.of(0, 9), 40);
        for (int p = 0; p < 6; p++) {
            z.captive(1, 100 * p, 1, 105, 1);
            due("of parish " + p, z.of(2 * p + 1, 1), p);
            z.captive(1, 100 * p + 34, 1, 105, 1);
            due("of parish " + p, z.of(2 * p + 2, 1), p);
            due("of trade 3", z.of(2 * p + 2, 2), 3);
            due("of master 4", z.of(2 * p + 2, 3), 4);
        }

        sickness();
        promise = 7;
        FriarLists w = new FriarLists();
        for (int i = 0; i < 4; i++) one(w, 0, 10);
        for (int to : new int[] {4, 8, 0, -5}) due("lose(0, " + to + ")", w.lose(0, to), -1);
        due("lose(4, 5)", w.lose(4, 5), -1);
        for (int c = 0; c < 3; c++) {
            due("lose", w.lose(c, 5 + c), 1);
            due("of state", w.of(c, 6), 5 + c);
            due("lose again", w.lose(c, 5), -4);
            due("many in state", w.many(25 + c), 1);
        }
        due("many(20)", w.many(20), 1);

        promise = 8;
        takes("master", 0, 4, v -> w.master(v, 3));
        takes("port of a master", 1, 4, v -> w.master(2, v));
        due("master(2, 1)", w.master(2, 1), 4);
    }

    private static void sickness() {
        promise = 5;
        FriarLists x = new FriarLists();
        for (int i = 0; i < 3; i++) one(x, 0, 10);
        x.weeks(3);
        due("sick(3, true)", x.sick(3, true), -1);
        due("sick(0, false)", x.sick(0, false), 0);
        due("sick(0, true)", x.sick(0, true), 1);
        due("of(0, 7)", x.of(0, 7), 3);
        x.weeks(2);
        due("sick(0, true) again", x.sick(0, true), 0);
        due("of(0, 7) is since the first", x.of(0, 7), 3);
        due("sick(1, true)", x.sick(1, true), 1);
        due("sick(1, false)", x.sick(1, false), 1);
        due("of(1, 7)", x.of(1, 7), -3);
        x.sick(2, true);
        due("lose a sick one", x.lose(2, 5), 1);
        x.weeks(3);
        due("of(0, 6) 5 weeks on", x.of(0, 6), 0);
        x.weeks(1);
        due("of(0, 6) 6 weeks on", x.of(0, 6), 7);
        due("of(0, 7) of a dead one", x.of(0, 7), 3);
        x.weeks(20);
        due("of(2, 6) inland", x.of(2, 6), 5);
        due("of(1, 6) healed", x.of(1, 6), 0);
        for (int c : new int[] {0, 2}) due("sick of a lost one", x.sick(c, true), -4);

        promise = 6;
        due("turned(1, false)", x.turned(1, false), 0);
        due("turned(1, true)", x.turned(1, true), 0);
        due("turned(1, true)", x.turned(1, true), 1);
        due("of(1, 8)", x.of(1, 8), 1);
        due("turned(1, false)", x.turned(1, false), 1);
        due("of(1, 8)", x.of(1, 8), 0);
        due("turned(0, true) of a dead one", x.turned(0, true), 0);
        due("turned(3, true)", x.turned(3, true), -1);
        due("turned(-1, true)", x.turned(-1, true), -1);
    }

    private static void newsAndAsks() {
        promise = 9;
        FriarLists x = new FriarLists();
        one(x, 0, 33);
        one(x, 11, 100);
        due("news(2, 1)", x.news(2, 1), -1);
        due("news(-2, 1)", x.news(-2, 1), -1);
        for (int weight : new int[] {0, 10, -1}) due("news of weight " + weight, x.news(0, weight), -1);
        due("news(0, 1)", x.news(0, 1), 0);
        due("news(-1, 9)", x.news(-1, 9), 1);
        for (int i = 2; i < 12; i++) due("news(1, 1)", x.news(1, 1), i);
        due("news 13th", x.news(1, 1), -2);
        due("news 13th of nobody", x.news(5, 1), -1);
        due("many(2)", x.many(2), 12);

        promise = 12;
        due("ask(0, 3)", x.ask(0, 3), 33);
        due("ask(0, 4)", x.ask(0, 4), 66);
        due("ask(1, 4)", x.ask(1, 4), 290);
        due("ask(0, 1999)", x.ask(0, 1999), 66);
        for (int week : new int[] {-1, 2000}) due("ask in " + week, x.ask(0, week), -1);
        for (int c : new int[] {-1, 2}) due("ask for " + c, x.ask(c, 0), -1);

        promise = 10;
        takes("port of lag", 1, 4, v -> x.lag(v, 4));
        takes("lag", 1, 20, v -> x.lag(1, v));
        due("lag(1, 2)", x.lag(1, 2), 20);
        due("ask(0, 2)", x.ask(0, 2), 66);
        x.master(0, 2);
        due("ask(0, 2) of a master elsewhere", x.ask(0, 2), 33);

        promise = 11;
        takes("trade", 0, 3, v -> x.premium(v, 0));
        takes("premium", 0, 500, v -> x.premium(1, v));
        due("premium(1, 10)", x.premium(1, 10), 500);
        due("ask(1, 4) with a premium", x.ask(1, 4), 319);
        due("ask(0, 0) of another trade", x.ask(0, 0), 33);

        promise = 12;
        FriarLists y = new FriarLists();
        one(y, 0, 15);
        y.news(0, 1);
        due("ask is cut", y.ask(0, 4), 16);
        y.weeks(30);
        one(y, 0, 100);
        y.news(-1, 1);
        due("ask(1, 33)", y.ask(1, 33), 100);
        due("ask(1, 34)", y.ask(1, 34), 110);
    }

    private static void names() {
        promise = 13;
        FriarLists x = new FriarLists();
        takes("letter", 1, 26, v -> x.sound(v, v == 26 ? 2 : 0));
        takes("class", 0, 5, v -> x.sound(26, v));
        due("sound(26, 2)", x.sound(26, 2), 5);

        promise = 14;
        String[] of = {"a", "b", "bb", "bab", "bpf", "joan", "robert", "zzzzzz", "btbtbt", "aeiouy", "rl", "rhl", "mn", "wv"};
        int[] key = {0, 1, 1, 11, 1, 25, 4143, 2, 131313, 0, 4, 44, 5, 1};
        for (int i = 0; i < of.length; i++) due("key of " + of[i], x.key(name(of[i])), key[i]);
        for (int v : new int[] {0, -1, 27, 54, 729, 387420489, Integer.MAX_VALUE, Integer.MIN_VALUE}) due("key(" + v + ")", x.key(v), -1);
        x.sound(1, 4);
        due("key of bab with a sounding", x.key(name("bab")), 141);
        due("key of la", x.key(name("la")), 4);
        x.sound(1, 0);

        promise = 15;
        x.captive(name("bab"), 0, 20, 0, 10);
        x.captive(name("pep"), 110, 29, 0, 10);
        x.captive(name("pp"), 220, 30, 0, 10);
        x.captive(name("fob"), 222, 31, 0, 10);
        due("meant by any", x.meant(name("vof"), -1), 11);
        due("meant of parish 1", x.meant(name("vof"), 1), 2);
        due("meant of parish 5", x.meant(name("vof"), 5), 0);
        due("meant by one b", x.meant(2, -1), 4);
        due("meant by nobody's name", x.meant(1, -1), 0);
        x.lose(0, 7);
        due("meant of the dead too", x.meant(name("vof"), -1), 11);
        takes("parish meant", -1, 5, v -> x.meant(1, v));
        due("meant by no name", x.meant(27, -1), -1);

        promise = 16;
        due("question: parish parts them all", x.question(name("vof"), -1), 0);
        due("question of one", x.question(2, -1), -3);
        due("question of none", x.question(1, -1), -3);
        takes("parish asked", -1, 5, v -> x.question(name("vof"), v));
        due("question by no name", x.question(27, -1), -1);
        FriarLists y = new FriarLists();
        y.captive(2, 110, 29, 0, 10);
        y.captive(2, 111, 28, 0, 10);
        y.captive(2, 122, 39, 0, 10);
        due("question: master", y.question(2, 1), 2);
        y.captive(2, 110, 49, 0, 10);
        due("question: trade, master and age", y.question(2, -1), 2);
        y.master(0, 4);
        FriarLists z = new FriarLists();
        z.captive(2, 110, 29, 0, 10);
        z.captive(2, 110, 29, 0, 10);
        due("question: none is better", z.question(2, -1), 0);
        z.captive(2, 110, 30, 0, 10);
        due("question: age", z.question(2, -1), 3);
        z.weeks(52);
        due("question: age now", z.question(2, -1), 0);
    }

    private static void boxes() {
        promise = 17;
        FriarLists x = new FriarLists();
        takes("parish of alms", 0, 5, v -> x.alms(v, 10));
        takes("alms", 1, 99, v -> x.alms(0, v));
        for (int i = 5; i <= 24; i++) due("alms(1, 2)", x.alms(1, 2), i);
        due("alms 25th", x.alms(1, 2), -2);
        due("alms 25th of nowhere", x.alms(6, 2), -1);
        due("many(3)", x.many(3), 24);

        promise = 18;
        due("openBox(0, 7, 110)", x.openBox(0, 7, 110), 0);
        due("openBox(1, 6, 0)", x.openBox(1, 6, 0), 1);
        for (int p : new int[] {-1, 6}) due("openBox of " + p, x.openBox(p, 7, 0), -1);
        for (int keys : new int[] {-1, 8}) due("openBox with " + keys, x.openBox(0, keys, 0), -1);
        for (int found : new int[] {-1, 10000}) due("openBox, found " + found, x.openBox(0, 7, found), -1);
        x.weeks(10);
        due("openBox(2, 7, 9999)", x.openBox(2, 7, 9999), 2);
        due("openBox(1, 0, 0)", x.openBox(1, 0, 0), 3);
        for (int i = 4; i < 12; i++) due("openBox(5, 7, 0)", x.openBox(5, 7, 0), i);
        due("openBox 13th", x.openBox(0, 7, 0), -2);
        due("openBox 13th of nowhere", x.openBox(6, 7, 0), -1);
        due("many(4)", x.many(4), 12);
        due("many(13)", x.many(13), 110 + 9999);
        due("many(14)", x.many(14), 2);

        promise = 19;
        due("lack(0)", x.lack(0), 10000);
        due("lack(1)", x.lack(1), 10040);
        due("lack(2)", x.lack(2), 1);
        due("lack(3)", x.lack(3), 10000);
        due("lack(4)", x.lack(4), 10010);
        due("lack(12)", x.lack(12), -1);
        due("lack(-1)", x.lack(-1), -1);

        promise = 20;
        due("shortSince(0)", x.shortSince(0), -3);
        due("shortSince(1)", x.shortSince(1), 0);
        due("shortSince(3)", x.shortSince(3), -3);
        takes("parish that is short", 0, 5, v -> x.shortSince(v));
        FriarLists y = new FriarLists();
        y.weeks(5);
        y.openBox(3, 7, 0);
        y.weeks(2);
        y.alms(3, 1);
        y.openBox(3, 7, 0);
        y.weeks(2);
        y.alms(3, 1);
        y.openBox(3, 7, 0);
        due("shortSince(3) is since the first", y.shortSince(3), 5);

        FriarLists w = new FriarLists();
        w.weeks(5);
        w.alms(4, 2);
        w.openBox(4, 3, 1);
        due("shortSince(4) by the first opening", w.shortSince(4), 0);
        due("many(14) of the first opening", w.many(14), 1);

        promise = 21;
        FriarLists z = new FriarLists();
        takes("legacy", 1, 9999, v -> z.legacy(v));
        for (int i = 2; i < 6; i++) due("legacy(5)", z.legacy(5), i);
        due("legacy 7th", z.legacy(5), -2);
        due("legacy 7th of nothing", z.legacy(0), -1);
        due("many(5)", z.many(5), 6);

        promise = 22;
        due("legacyOf(1, 0)", z.legacyOf(1, 0), 9999);
        due("legacyOf(1, 1)", z.legacyOf(1, 1), 9999);
        due("legacyOf(1, 2)", z.legacyOf(1, 2), 0);
        takes("what of a legacy", 0, 2, v -> z.legacyOf(0, v));
        takes("legacy asked", 0, 5, v -> z.legacyOf(v, 0));
    }

    private static void rules() {
        promise = 23;
        FriarLists x = new FriarLists();
        takes("bytes fed", 1, 8, v -> x.feed(0, v));
        for (int i = 17; i < 250; i += 8) x.feed(0, 8);
        due("many(11)", x.many(11), 249);
        due("feed above 250", x.feed(0, 2), -2);
        due("feed to 250", x.feed(0, 1), 250);
        due("feed at 250", x.feed(0, 1), -2);
        due("feed of none at 250", x.feed(0, 9), -1);
        due("read of zeros", x.read(), -100);
        due("many(11) behind read()", x.many(11), 0);
        due("feed \"bar if sick\", the lowest first", x.feed(0x7320666920726162L, 8), 8);
        due("feed the rest", x.feed(0x3b6b6369L, 4), 12);

        promise = 24;
        due("read", x.read(), 0);
        due("read of nothing", x.read(), 1);
        due("read of blanks", read(x, "   "), 2);
        for (int v = 3; v < 8; v++) due("read", read(x, "rank " + v + ";"), v);
        due("read of a ninth", read(x, ""), -2);
        due("read of a ninth with a fault", read(x, "rank ;"), -105);
        due("many(11) behind a refusal", x.many(11), 0);
        due("many(6)", x.many(6), 8);

        promise = 25;
        FriarLists y = new FriarLists();
        y.weeks(7);
        due("read", read(y, "rank 3 if age<5;rank 4;bar if sick;left 5 buys turned;proof 9;"), 0);
        int[] sort = {0, 0, 1, 2, 3};
        int[] n = {3, 4, -3, 5, 9};
        due("version(0, 0)", y.version(0, 0), 5);
        due("version(0, 1)", y.version(0, 1), 7);
        for (int i = 0; i < 5; i++) {
            due("version's sort of line " + i, y.version(0, 10 + i), sort[i]);
            due("version's N of line " + i, y.version(0, 30 + i), n[i]);
        }
        due("read", read(y, "proof 1;left 2 buys sick;rank 0;"), 1);
        int[] nextSort = {3, 2, 0}, nextN = {1, 2, 0};
        due("version(1, 0)", y.version(1, 0), 3);
        for (int i = 0; i < 3; i++) {
            due("the next version's sort of line " + i, y.version(1, 10 + i), nextSort[i]);
            due("the next version's N of line " + i, y.version(1, 30 + i), nextN[i]);
        }
        for (int what : new int[] {-1, 2, 9, 15, 29, 35, Integer.MIN_VALUE, Integer.MAX_VALUE}) due("version(0, " + what + ")", y.version(0, what), -1);
        for (int v : new int[] {-1, 2}) due("version(" + v + ", 0)", y.version(v, 0), -1);

        ruling();
        ages();
    }

    /** What a rule asks of an age is the age in the week that is asked for, in each call that asks the rules. */
    private static void ages() {
        promise = 26;
        FriarLists x = new FriarLists();
        x.weeks(60);
        x.captive(1, 0, 10, 60, 5);
        x.captive(1, 0, 90, 0, 5);
        x.captive(1, 0, 10, 8, 5);
        x.keep();
        x.again();
        read(x, "rank 0 if age<10; rank 1 if age=10; rank 2 if age=11; rank 3 if age=12; rank 4 if age>127; rank 5 if age>90;");
        int[][] ages = {{0, 60, 1}, {0, 61, 1}, {0, 111, 1}, {0, 112, 2}, {0, 163, 2}, {0, 164, 3}, {0, 215, 3}, {0, 216, 9},
            {1, 60, 5}, {1, 1975, 5}, {1, 1976, 4}, {1, 1999, 4}, {2, 60, 2}, {2, 111, 2}, {2, 112, 3}};
        for (int[] age : ages) due("rank(" + age[0] + ", " + age[1] + ") by age", x.rank(age[0], age[1]), age[2]);
        FriarLists old = new FriarLists();
        read(old, "rank 0 if age<30; rank 1 if age=30; rank 2 if age=31;");
        old.weeks(200);
        old.captive(1, 0, 30, 200, 5);
        for (int week : new int[] {0, 95, 96, 147, 148, 149, 199, 200, 251}) due("rank(0, " + week + "), none is younger than told", old.rank(0, week), 1);
        due("rank(0, 252)", old.rank(0, 252), 2);
        FriarLists each = new FriarLists();
        for (int n = 0; n < 4; n++) {
            read(each, "rank " + n + " if age=2" + n + ";");
            if (n == 0) one(each, 0, 1);
            each.weeks(52);
        }
        for (int n = 0; n < 4; n++) due("rank by age and rules of then", each.rank(0, 52 * n), n);
        due("rank by age behind the last rules", each.rank(0, 208), 9);

        promise = 27;
        read(x, "bar if age>10; left 0 buys age<11;");
        due("barred, not yet so old", x.barred(0, 111), 0);
        due("barred by age", x.barred(0, 112), 1);

        promise = 28;
        x.legacy(100);
        due("may, not yet so old", x.may(0, 0, 111), 1);
        due("may by age", x.may(0, 0, 112), 0);

        promise = 34;
        due("mole, barred by age", x.mole(1, 999), 1);
        promise = 37;
        due("judge", x.judge(1, 999), 0);
        promise = 38;
        due("buy, barred by age", x.buy(2, -1), -4);
        due("buy, not yet so old", x.buy(0, 0), 5);
        promise = 22;
        due("amiss, not yet so old", x.legacyOf(0, 2), 0);
        x.weeks(51);
        due("amiss, not yet so old", x.legacyOf(0, 2), 0);
        x.weeks(1);
        due("amiss by age now", x.legacyOf(0, 2), 5);
        promise = 37;
        due("judge of one bought", x.judge(1, 999), 1);

        promise = 34;
        FriarLists y = new FriarLists();
        y.captive(1, 0, 13, 0, 5);
        y.captive(1, 0, 20, 0, 4);
        read(y, "rank 0 if age<14; rank 1; left 0 buys age=14; bar if age=15;");
        y.legacy(9);
        y.weeks(51);
        due("mole by rank of age", y.mole(1, 5), 1);
        due("buy, it may not yet", y.buy(0, 0), -4);
        y.weeks(1);
        due("mole by rank of age, later", y.mole(1, 5), 2);
        promise = 37;
        y.weeks(51);
        y.mole(1, 9);
        due("judge", y.judge(1, 9), 0);
        y.weeks(1);
        due("judge, barred by age since", y.judge(1, 9), 1);
    }

    /** In week 10; she was taken in week 4. This is kept. */
    private static FriarLists withJoan() {
        FriarLists x = new FriarLists();
        x.weeks(10);
        x.captive(name("joan"), 234, 20, 4, 100);
        x.keep();
        return x;
    }

    private static void ruling() {
        promise = 26;
        due("rank without rules", withJoan().rank(0, 10), 9);
        String[] holds = {"age=20", "age>19", "age<21", "weeks=6", "trade=3", "parish=2", "paid=100", "master=4", "not sick",
            "not turned", "not not age=20", "sick or age=20", "age=20 or age=20 and sick", "(age=20)", "((((age=20))))",
            "not (sick or turned)", "not sick and not turned", "not(age=20 and sick)", "age=020", "sick and sick or age=20"};
        String[] fails = {"age=21", "age>20", "age<20", "weeks<6", "trade=0", "parish>2", "paid<100", "master=3", "sick", "turned",
            "not age=20", "(age=20 or age=20) and sick", "not (age=20)", "not not sick", "age=20 and sick", "sick or turned",
            "not age=20 or sick", "(age=20 or sick) and (turned or sick)", "not(age=20 or sick)"};
        for (String cond : holds) {
            FriarLists x = withJoan();
            due("read " + cond, read(x, "rank 2 if " + cond + "; rank 5;"), 0);
            due("rank if " + cond, x.rank(0, 10), 2);
        }
        for (String cond : fails) {
            FriarLists other = withJoan();
            due("read " + cond, read(other, "rank 2 if " + cond + "; rank 5; rank 6;"), 0);
            due("rank if " + cond, other.rank(0, 10), 5);
        }
        FriarLists later = withJoan();
        read(later, "rank 1 if weeks=0; rank 0 if weeks=10;");
        due("rank ahead of the rules", later.rank(0, 9), 9);
        later.weeks(5);
        due("rank in week 14", later.rank(0, 14), 0);
        due("rank in week 15", later.rank(0, 15), 9);
        due("rank in week 1999", later.rank(0, 1999), 9);
        read(later, "rank 1 if weeks=0; rank 7;");
        due("rank by the rules of then", later.rank(0, 14), 0);
        due("rank by the latest rules", later.rank(0, 15), 7);
        read(later, "rank 8;");
        due("rank by the latest of a week", later.rank(0, 15), 8);
        later.again();
        read(later, "rank 1 if weeks=0;");
        later.captive(2, 0, 20, 10, 1);
        due("weeks are not below 0", later.rank(1, 10), 1);
        takes("week of a rank", 0, 1999, v -> later.rank(0, v));
        takes("captive of a rank", 0, 1, v -> later.rank(v, 0));

        promise = 27;
        FriarLists y = new FriarLists();
        one(y, 0, 10);
        one(y, 0, 10);
        read(y, "bar if paid>10; bar if sick; bar if turned;");
        due("barred(0, 0)", y.barred(0, 0), 0);
        y.weeks(3);
        y.sick(0, true);
        due("barred ahead of the sickness", y.barred(0, 2), 0);
        due("barred since the sickness", y.barred(0, 3), 1);
        due("barred later", y.barred(0, 100), 1);
        y.sick(0, false);
        due("barred, healed", y.barred(0, 3), 0);
        y.turned(1, true);
        due("barred, turned", y.barred(1, 0), 1);
        takes("week of barred", 0, 1999, v -> y.barred(0, v));
        takes("captive barred", 0, 1, v -> y.barred(v, 0));

        promise = 28;
        y.legacy(10);
        y.legacy(10);
        due("may without a line", y.may(0, 0, 3), 1);
        read(y, "left 0 buys turned; left 0 buys not turned; left 1 buys age>20 or parish=0;");
        due("may by the first line", y.may(0, 0, 3), 0);
        due("may by the first line", y.may(0, 1, 3), 1);
        due("may by the second legacy's", y.may(1, 0, 3), 1);
        due("may by the rules of then", y.may(0, 0, 2), 1);
        takes("legacy that may", 0, 1, v -> y.may(v, 0, 0));
        takes("captive it may", 0, 1, v -> y.may(0, v, 0));
        takes("week it may", 0, 1999, v -> y.may(0, 0, v));

        String nine = "rank 1 if sick;".repeat(9);
        FriarLists z = new FriarLists();
        one(z, 0, 10);
        z.legacy(5);
        read(z, nine);
        z.weeks(1);
        read(z, "rank 2;bar if not sick;left 0 buys sick;");
        for (int first = 0; first < 2; first++) {
            due("rank by nine lines", z.rank(0, first), first == 0 ? 9 : 2);
            due("barred by nine lines", z.barred(0, first), first);
            due("may by nine lines", z.may(0, 0, first), 1 - first);
        }
        FriarLists w = new FriarLists();
        one(w, 0, 10);
        w.legacy(5);
        read(w, nine);
        w.weeks(1);
        read(w, "bar if not sick;");
        due("barred by nine lines, not by the line behind", w.barred(0, 0), 0);
        FriarLists u = new FriarLists();
        one(u, 0, 10);
        u.legacy(5);
        read(u, nine);
        u.weeks(1);
        read(u, "left 0 buys sick;");
        due("may by nine lines, not by the line behind", u.may(0, 0, 0), 1);

        promise = 29;
        due("proof(0, -1)", y.proof(0, -1), 0);
        due("proof(0, 3)", y.proof(0, 3), 1);
        due("proof(0, 3)", y.proof(0, 3), 1);
        due("proof(0, 0)", y.proof(0, 0), 2);
        due("proof(1, 3)", y.proof(1, 3), 1);
        takes("parish of a proof", -1, 5, v -> y.proof(0, v));
        takes("captive of a proof", 0, 1, v -> y.proof(v, 5));
        for (int i = 9; i < 20; i++) y.proof(1, 5);
        due("many(7)", y.many(7), 20);
        due("proof 21st", y.proof(1, 5), -2);
        due("proof 21st of nobody", y.proof(2, 5), -1);
        due("proof 21st by nobody", y.proof(1, 6), -1);
    }

    private static void faults() {
        promise = 24;
        Object[][] faults = {
            {"rank", 4}, {"rank ", 5}, {"rank 1", 6}, {"rank 1 ", 7}, {"rank 10;", 5}, {"rank 010;", 5}, {"rank 009;", -1},
            {"rank 0009;", 5}, {"proof 10;", 6}, {"proof 9", 7}, {"left 6 buys sick;", 5}, {"left 5 buys;", 11}, {"left 5 if", 7},
            {"bar sick;", 4}, {"bar if ;", 7}, {"bar if sick", 11}, {"bar if sick turned;", 12}, {"bar if age<1000;", 11},
            {"bar if age<0999;", 11}, {"bar if age<999;", -1}, {"bar if age<;", 11}, {"bar if age 5;", 11}, {"bar if age<=5;", 11},
            {"bar if 5<age;", 7}, {"bar if not;", 10}, {"bar if not not sick;", -1}, {"bar if (sick;", 12}, {"bar if sick);", 11},
            {"bar if ();", 8}, {"bar if ((((sick))));", -1}, {"bar if (((((sick)))));", 11}, {"bar if ((((sick)))) or ((((sick))));", -1},
            {"bar if sick or;", 14}, {"bar if or sick;", 7}, {"bar if sick and or sick;", 16}, {"bar if sick;;", 12}, {";", 0},
            {"rank1if age<5or(sick)and not turned;", -1}, {"ranks 1;", 0}, {"rankz 1;", 0}, {"ranka 1;", 0}, {"zrank 1;", 0}, {"ran", 0}, {"Rank 1;", 0}, {"rank 1; x", 8}, {"rank\t1;", 4},
            {"rank 1 if", 9}, {"rank 1 if age", 13}, {"rank 1 if ages<5;", 10}, {"rank 1 bar", 7}, {"proof 1 if sick;", 8},
            {"  rank  1  ;  ", -1}, {"rank 1;rank 1;\u00e9", 14}, {"rank -1;", 5}, {"bar if sickor turned;", 7}, {"bar if age<5or turned;", -1},
            {"bar if not(not(not(not(sick))));", -1}, {"bar if not(not(not(not(not(sick)))));", 26}, {"rank 1 if mastery=1;", 10},
            {"bar if sick and turned and", 26}, {"rank 1 if paid<10 10;", 18}, {"rank 1 2;", 7}, {"buys", 0}, {"7", 0},
        };
        for (Object[] fault : faults) {
            int place = (Integer) fault[1];
            due("read of " + fault[0], read(new FriarLists(), (String) fault[0]), place < 0 ? 0 : -100 - place);
        }
        String nine = "rank 1;".repeat(9);
        due("nine lines", read(new FriarLists(), nine), 0);
        due("nine lines and blanks", read(new FriarLists(), nine + "  "), 0);
        due("a tenth line", read(new FriarLists(), nine + " bar"), -100 - 64);
        due("a tenth thing", read(new FriarLists(), nine + "9"), -100 - 63);
        FriarLists x = new FriarLists();
        String longest = "bar if sick" + " or sick".repeat(29) + ";";
        due("the longest", read(x, longest + " ".repeat(250 - longest.length())), 0);
        one(x, 0, 10);
        due("barred by the longest", x.barred(0, 0), 0);
        x.sick(0, true);
        due("barred by the longest", x.barred(0, 0), 1);
    }

    private static void coinsAndSails() {
        promise = 30;
        FriarLists x = new FriarLists();
        takes("port of a rate", 0, 4, v -> x.rate(v, 0, 1, 1000));
        takes("coin changed", 0, 2, v -> x.rate(0, v, v == 0 ? 1 : 0, 1000));
        takes("coin got", 0, 2, v -> x.rate(0, v == 0 ? 1 : 0, v, 1000));
        takes("rate", 1, 3000, v -> x.rate(0, 0, 1, v));
        due("rate of the same", x.rate(0, 1, 1, 1000), -1);
        due("rate", x.rate(0, 0, 1, 1000), 3000);
        due("rate the other way", x.rate(0, 1, 0, 1000), 1000);

        promise = 31;
        takes("port of sails", 0, 3, v -> v == 4 ? -1 : x.sails(v, 4, 0));
        takes("other port of sails", 1, 4, v -> v == 0 ? -1 : x.sails(0, v, 0));
        takes("sails", 0, 999, v -> x.sails(0, 1, v));
        due("sails of the same", x.sails(2, 2, 100), -1);
        due("sails the other way", x.sails(1, 0, 0), 999);

        promise = 32;
        FriarLists y = new FriarLists();
        due("brought without sails", y.brought(1, 0, 0, 1), -3);
        y.sails(0, 1, 99);
        due("brought with sails of 0 weeks", y.brought(1, 0, 0, 1), -3);
        y.sails(0, 1, 100);
        due("brought as it is", y.brought(1, 2, 2, 99999), 99999);
        y.rate(0, 0, 1, 1500);
        y.rate(1, 1, 2, 1);
        due("brought is cut", y.brought(1, 0, 1, 3), 4);
        y.rate(1, 0, 2, 999);
        due("brought, changed at the last port", y.brought(1, 0, 2, 100), 100);
        y.rate(0, 0, 2, 1);
        due("brought, changed at one of both", y.brought(1, 0, 2, 2), 1);
        due("brought to less than one", y.brought(1, 1, 2, 1), 1);
        takes("port brought to", 1, 4, v -> y.brought(v, 0, 0, 1));
        takes("coin brought", 0, 2, v -> y.brought(1, v, 0, 1));
        takes("coin brought as", 0, 2, v -> y.brought(1, 0, v, 1));
        takes("brought", 1, 99999, v -> y.brought(1, 0, 0, v));

        promise = 33;
        FriarLists z = new FriarLists();
        due("road without sails", z.road(1, 1, 0), -3);
        z.sails(1, 0, 950);
        z.sails(1, 3, 100);
        z.sails(3, 2, 101);
        z.sails(2, 0, 100);
        z.sails(3, 0, 150);
        due("road: lost", z.road(1, 99, 0), 1);
        due("road: weeks", z.road(1, 99, 1), 3);
        int[] ports = {1, 3, 2, 0};
        for (int i = 0; i < 4; i++) due("road: port " + i, z.road(1, 99, 2 + i), ports[i]);
        due("road: no port", z.road(1, 99, 6), -3);
        due("road: no port", z.road(1, 99, Integer.MAX_VALUE), -3);
        z.sails(3, 2, 100);
        due("road: none is lost", z.road(1, 99, 0), 0);
        z.sails(1, 2, 200);
        due("road: of the same weeks the first by numbers", z.road(1, 99, 3), 2);
        z.sails(1, 0, 300);
        due("road: of the same weeks straight home", z.road(1, 99, 3), 0);
        z.sails(1, 0, 301);
        due("road for one: one is lost straight home", z.road(1, 1, 3), 2);
        takes("port of a road", 1, 4, v -> z.road(v, 1, 0));
        takes("many on a road", 1, 99, v -> z.road(1, v, 0));
        due("road(1, 1, -1)", z.road(1, 1, -1), -1);
    }

    private static void buying() {
        promise = 34;
        FriarLists x = new FriarLists();
        read(x, "rank 0 if trade=0; rank 1 if trade=1;");
        one(x, 20, 1);
        one(x, 10, 30);
        one(x, 0, 60);
        one(x, 0, 60);
        one(x, 10, 20);
        one(x, 10, 20);
        one(x, 1, 5);
        x.master(1, 2);
        due("mole(1, 0)", x.mole(1, 0), 0);
        due("mole(1, 60): rank 0 ahead, the least bits", x.mole(1, 60), 4);
        due("mole(1, 119)", x.mole(1, 119), 4 + 16 + 32 + 1);
        due("mole(1, 140)", x.mole(1, 140), 4 + 8 + 16);
        due("mole(1, 141): rank 9 too", x.mole(1, 141), 4 + 8 + 16 + 1);
        due("mole(1, 99999)", x.mole(1, 99999), 63);
        due("mole(2, 5)", x.mole(2, 5), 64);
        due("mole(3, 5)", x.mole(3, 5), 0);
        due("many(10)", x.many(10), 0);
        takes("port of a mole", 1, 4, v -> x.mole(v, 0));
        takes("coin of a mole", 0, 99999, v -> x.mole(1, v));
        FriarLists y = new FriarLists();
        for (int i = 0; i < 16; i++) one(y, 0, 1);
        y.lose(3, 6);
        due("mole: twelve at most, of least numbers", y.mole(1, 99999), 0b1111111110111);

        promise = 35;
        for (int i = 0; i < 12; i++) due("row " + i, y.row(i, 0), i < 3 ? i : i + 1);
        due("row's ask", y.row(11, 1), 1);
        for (int i : new int[] {-1, 12}) due("row " + i, y.row(i, 0), -9);
        for (int what : new int[] {-1, 2}) due("row's " + what, y.row(0, what), -9);

        promise = 36;
        for (int i : new int[] {-1, 12}) due("alterRow " + i, y.alterRow(i, 0, 5), -9);
        for (int what : new int[] {-1, 2}) due("alterRow's " + what, y.alterRow(0, what, 5), -9);
        due("alterRow(0, 1, -7)", y.alterRow(0, 1, -7), 1);
        due("row(0, 1)", y.row(0, 1), -7);

        promise = 37;
        due("judge: ask is another", y.judge(1, 100), 1);
        y.alterRow(0, 1, 1);
        due("judge: all are right", y.judge(1, 12), 0);
        due("judge: the coin is short", y.judge(1, 11), 12);
        due("judge: not there", y.judge(2, 12), 1);
        y.alterRow(11, 0, 15);
        due("judge does not look for others", y.judge(1, 12), 0);
        y.alterRow(5, 0, 5);
        due("judge: the same as ahead", y.judge(1, 12), 6);
        y.alterRow(5, 0, 16);
        due("judge: no such captive", y.judge(1, 12), 6);
        y.alterRow(5, 0, 6);
        y.alterRow(3, 0, 3);
        due("judge: not held", y.judge(1, 12), 4);
        takes("port of a judge", 1, 4, v -> y.judge(v, 0));
        takes("coin of a judge", 0, 99999, v -> y.judge(1, v));

        paying();
        promise = 40;
        due("waits: pay at once, the first of several", x.waits(50, 5, 5, 6, 99, 1), 0);
        due("waits: not at all", x.waits(50, 0, 1, 6, 0, 1), 7);
        due("waits: not at all, cost", x.waits(50, 0, 1, 6, 0, 0), 7);
        due("waits: pay late", x.waits(50, 6, 1, 6, 99, 1), 6);
        due("waits: pay late, cost", x.waits(50, 6, 1, 6, 99, 0), 20);
        due("waits: 1 at least", x.waits(50, 50, 0, 1, 0, 0), 0);
        due("waits: 1 at least", x.waits(50, 50, 0, 1, 1, 1), 1);
        due("waits: patience 0", x.waits(50, 50, 9, 0, 40, 0), 49);
        takes("ask waited", 1, 9999, v -> x.waits(v, 0, 0, 0, 0, 0));
        takes("drop", 0, 999, v -> x.waits(5, v, 0, 0, 0, 0));
        takes("keep", 0, 999, v -> x.waits(5, 0, v, 0, 9, 0));
        takes("patience", 0, 6, v -> x.waits(5, 0, 0, v, 0, 0));
        takes("loss", 0, 9999, v -> x.waits(5, 0, 9, 0, v, 0));
        takes("what of waits", 0, 1, v -> x.waits(5, 0, 0, 0, 0, v));
    }

    private static void paying() {
        promise = 38;
        FriarLists x = new FriarLists();
        for (int i = 0; i < 6; i++) one(x, 10 * (i % 2), 40);
        x.legacy(80);
        x.openBox(0, 7, 79);
        read(x, "proof 7; bar if turned; left 0 buys trade=1; proof 1;");
        due("buy without proofs", x.buy(0, -1), -4);
        for (int c = 0; c < 6; c++) x.proof(c, c == 5 ? -1 : 2);
        due("buy from the chest", x.buy(0, -1), 40);
        due("many(13)", x.many(13), 39);
        due("of(0, 6)", x.of(0, 6), 1);
        due("of(0, 10)", x.of(0, 10), 40);
        due("of(0, 11)", x.of(0, 11), -3);
        due("buy again", x.buy(0, -1), -4);
        due("buy: the chest hasn't so much", x.buy(1, -1), -4);
        due("buy: it may not", x.buy(2, 0), -4);
        x.turned(1, true);
        due("buy: barred", x.buy(1, 0), -4);
        x.turned(1, false);
        x.news(-1, 1);
        x.weeks(4);
        due("buy for the ask now", x.buy(1, 0), 44);
        due("legacyOf(0, 1)", x.legacyOf(0, 1), 36);
        due("of(1, 11)", x.of(1, 11), 0);
        due("buy: it hasn't so much", x.buy(3, 0), -4);
        due("buy: a debtor's proof", x.buy(5, 0), -4);
        for (int c : new int[] {-1, 6}) due("buy " + c, x.buy(c, -1), -1);
        for (int from : new int[] {-2, 1}) due("buy from " + from, x.buy(3, from), -1);

        promise = 22;
        due("legacyOf(0, 2)", x.legacyOf(0, 2), 0);
        read(x, "left 0 buys trade=0;");
        due("amiss by the rules now", x.legacyOf(0, 2), 44);
        due("the amount stays", x.legacyOf(0, 0), 80);

        FriarLists y = new FriarLists();
        y.legacy(1);
        one(y, 0, 1);
        due("buy for all that it has", y.buy(0, 0), 1);
        due("legacyOf(0, 1)", y.legacyOf(0, 1), 0);
        y.openBox(0, 7, 5);
        one(y, 0, 5);
        due("buy for all that is in the chest", y.buy(1, -1), 5);
        due("many(13)", y.many(13), 0);
        read(y, "left 0 buys sick;");
        due("amiss for the first captive", y.legacyOf(0, 2), 1);

        promise = 39;
        due("twice of one bought for 1", y.twice(0), 1);
        due("twice(2)", x.twice(2), 0);
        due("of(2, 13)", x.of(2, 13), 0);
        due("twice(1)", x.twice(1), 1);
        due("of(1, 13)", x.of(1, 13), 1);
        due("of(0, 13)", x.of(0, 13), 0);
        x.openBox(0, 7, 100);
        x.buy(2, -1);
        due("of(2, 13), bought later", x.of(2, 13), 1);
        for (int c : new int[] {-1, 6}) due("twice(" + c + ")", x.twice(c), -1);
    }

    /** Captives 0 to 4 at port 1 and 5 at port 2, all bought; port 1 is two weeks from home. */
    private static FriarLists bought() {
        FriarLists x = new FriarLists();
        x.openBox(0, 7, 9999);
        x.master(1, 2);
        for (int i = 0; i < 6; i++) one(x, i == 5 ? 1 : 0, 10);
        for (int i = 0; i < 6; i++) x.buy(i, -1);
        x.sails(1, 0, 250);
        x.ship(1, 3);
        x.ship(1, 16);
        return x;
    }

    private static void ships() {
        promise = 41;
        FriarLists x = new FriarLists();
        takes("port of a ship", 1, 4, v -> x.ship(v, 5));
        takes("pass", 1, 16, v -> x.ship(1, v));
        due("ship 5th", x.ship(1, 5), -2);
        due("ship 5th of no port", x.ship(0, 5), -1);
        due("many(8)", x.many(8), 4);

        promise = 42;
        FriarLists y = bought();
        due("aboard(0, 0)", y.aboard(0, 0), 1);
        due("of(0, 12)", y.of(0, 12), 0);
        due("aboard again", y.aboard(0, 0), -4);
        due("aboard another", y.aboard(0, 1), -4);
        due("aboard(1, 0)", y.aboard(1, 0), 2);
        due("aboard elsewhere", y.aboard(5, 0), -4);
        due("aboard(2, 0)", y.aboard(2, 0), 3);
        due("aboard above the pass", y.aboard(3, 0), -4);
        due("aboard(3, 1)", y.aboard(3, 1), 1);
        for (int c : new int[] {-1, 6}) due("aboard of " + c, y.aboard(c, 0), -1);
        for (int s : new int[] {-1, 2}) due("aboard of ship " + s, y.aboard(4, s), -1);
        y.ship(2, 2);
        due("aboard(5, 2)", y.aboard(5, 2), 1);

        promise = 43;
        due("sail without a road", y.sail(2), -3);
        due("sail(3)", y.sail(3), -1);
        due("sail(-1)", y.sail(-1), -1);
        due("sail(0)", y.sail(0), 2);
        due("sail again", y.sail(0), -4);
        due("aboard of a ship that sailed", y.aboard(4, 0), -4);
        due("many(22)", y.many(22), 3);
        y.weeks(1);
        due("of(0, 6) at sea", y.of(0, 6), 2);
        y.weeks(1);
        due("of(0, 6) off", y.of(0, 6), 3);
        y.weeks(1);
        due("of(0, 6) off", y.of(0, 6), 3);
        y.weeks(1);
        due("of(0, 6) home", y.of(0, 6), 4);
        due("of(0, 12) stays", y.of(0, 12), 0);
        due("of(3, 6) in port", y.of(3, 6), 1);
        quarantine();
    }

    private static void quarantine() {
        promise = 2;
        FriarLists x = bought();
        x.sick(0, true);
        x.sick(1, true);
        x.sick(1, false);
        for (int c = 0; c < 3; c++) x.aboard(c, c == 0 ? 0 : 1);
        x.sick(2, true);
        x.sick(2, false);
        x.sail(0);
        x.sail(1);
        x.weeks(4);
        due("off for six weeks, sick as it sailed", x.of(0, 6), 3);
        due("home: healed ahead of the sailing", x.of(1, 6), 4);
        x.weeks(2);
        due("dead off the mole", x.of(0, 6), 7);

        x = bought();
        for (int c = 0; c < 2; c++) x.aboard(c, 0);
        x.sail(0);
        x.weeks(1);
        x.sick(1, true);
        x.weeks(1);
        x.sick(1, false);
        x.weeks(5);
        due("off for six weeks, sick at sea", x.of(0, 6), 3);
        due("off for six weeks, healed", x.of(1, 6), 3);
        x.weeks(1);
        due("home behind six weeks", x.of(0, 6), 4);
        promise = 5;
        due("sick who is home", x.sick(0, true), -4);
        due("healed who is home", x.sick(1, false), -4);

        promise = 2;
        x = bought();
        for (int c = 0; c < 2; c++) x.aboard(c, 0);
        x.sail(0);
        x.weeks(2);
        x.sick(1, true);
        x.weeks(1);
        due("off, sick only off the mole", x.of(0, 6), 3);
        x.weeks(1);
        due("home, sick only off the mole", x.of(0, 6), 4);

        x = bought();
        for (int c = 0; c < 3; c++) x.aboard(c, 0);
        x.sick(2, true);
        x.weeks(4);
        x.sail(0);
        x.weeks(2);
        due("dead as the ship comes", x.of(2, 6), 7);
        due("off as the ship comes", x.of(0, 6), 3);
        x.weeks(2);
        due("off: one died at sea", x.of(0, 6), 3);
        x.sick(1, true);
        x.weeks(3);
        due("off in the week ahead", x.of(0, 6), 3);
        x.weeks(1);
        due("home", x.of(0, 6), 4);
        due("home, and sick still", x.of(1, 6), 4);
        x.weeks(50);
        due("who is home dies not", x.of(1, 6), 4);
        due("sick since then", x.of(1, 7), 8);

        x = bought();
        x.aboard(0, 0);
        x.sick(0, true);
        x.weeks(6);
        due("dead in port", x.of(0, 6), 7);
        promise = 43;
        due("sail with nobody alive", x.sail(0), -4);
        for (int i = 0; i < 9; i++) x.weeks(200);
        x.weeks(193);
        x.aboard(1, 0);
        x.aboard(2, 1);
        due("sail to the end", x.sail(0), 2001);
    }

    private static void voyages() {
        promise = 44;
        FriarLists x = new FriarLists();
        takes("cost", 1, 999, v -> x.voyage(v, 1, 3));
        takes("brings", 1, 9, v -> x.voyage(999, v, 3));
        takes("rank brought", 0, 3, v -> x.voyage(999, 1, v));
        due("voyage", x.voyage(1, 1, 1), 7);
        due("voyage", x.voyage(1, 1, 1), 8);
        due("voyage 9th", x.voyage(1, 1, 1), -2);
        due("voyage 9th for nothing", x.voyage(0, 1, 1), -1);
        due("many(9)", x.many(9), 8);

        promise = 45;
        FriarLists y = new FriarLists();
        due("years of none", y.years(99999, -1), 0);
        y.voyage(10, 9, 1);
        y.voyage(10, 1, 0);
        y.voyage(5, 1, 0);
        y.voyage(5, 1, 0);
        y.voyage(5, 9, 1);
        y.voyage(3, 2, 3);
        due("years(4, -1)", y.years(4, -1), 32);
        due("years(5, -1): the least bits", y.years(5, -1), 4);
        due("years(10, -1): the cheapest", y.years(10, -1), 12);
        due("years(15, -1)", y.years(15, -1), 12 + 16);
        due("years(15, -2)", y.years(15, -2), 15);
        due("years(99999, -1)", y.years(99999, -1), 63);
        int[] brought = {3, 18, 0, 2};
        for (int rank = 0; rank < 4; rank++) due("years of rank " + rank, y.years(99999, rank), brought[rank]);
        due("years(99999, -2)", y.years(99999, -2), 38);
        takes("coin of years", 0, 99999, v -> y.years(v, 0));
        for (int what : new int[] {-3, 4}) due("years of " + what, y.years(0, what), -1);
        FriarLists z = new FriarLists();
        for (int i = 0; i < 8; i++) z.voyage(999, 9, 0);
        due("years of 72", z.years(99999, 0), 72);
    }

    private static void sheets() {
        promise = 46;
        FriarLists x = new FriarLists();
        for (int s : new int[] {-1, 4}) due("sheet " + s, x.sheet(s, 2, 1), -1);
        for (int sort : new int[] {-2, 5}) due("sheet of sort " + sort, x.sheet(0, sort, 1), -1);
        due("sheet of 41", x.sheet(0, 2, 41), -1);
        due("sheet of -1", x.sheet(0, 2, -1), -14);
        due("sheet of sort 5 and -1", x.sheet(0, 5, -1), -1);
        due("sheet of 40", x.sheet(3, 2, 40), 1);
        due("sheet of 0", x.sheet(0, 3, 0), 1);

        promise = 47;
        due("put of no sheet", x.put(4, 0, 1), -1);
        due("put of no sheet", x.put(-1, 0, 1), -1);
        due("put of a missing one", x.put(1, 0, 1), -11);
        due("put of a missing one, outside", x.put(1, -5, 1), -11);
        due("put into none", x.put(0, 0, 1), -12);
        for (int i : new int[] {-1, 40, Integer.MAX_VALUE, Integer.MIN_VALUE}) due("put " + i, x.put(3, i, 1), -12);
        due("put the last", x.put(3, 39, 8), 1);

        promise = 48;
        int[] narrowed = {(byte) 70000200, (short) 70000200, 70000200, 70000200, 1};
        for (int sort = 0; sort < 5; sort++) {
            x.sheet(1, sort, 2);
            due("item at first", x.item(1, sort, 1), 0);
            due("put", x.put(1, 1, 70000200), 1);
            due("item of sort " + sort, x.item(1, sort, 1), narrowed[sort]);
            due("item 0 of sort " + sort, x.item(1, sort, 0), 0);
            due("item of another sort", x.item(1, (sort + 1) % 5, 9), -13);
            for (int i : new int[] {-1, 2}) due("item outside", x.item(1, sort, i), -12);
        }
        due("item below 0", x.put(1, 0, 0) + x.item(1, 4, 0), 1);
        x.sheet(1, 0, 1);
        x.put(1, 0, 128);
        due("item of a byte", x.item(1, 0, 0), -128);
        x.sheet(1, 3, 1);
        x.put(1, 0, Integer.MIN_VALUE);
        due("item of a long", x.item(1, 3, 0), Integer.MIN_VALUE);
        due("item of a missing one", x.item(2, 0, 0), -11);
        for (int s : new int[] {-1, 4}) due("item of no sheet", x.item(s, 0, 0), -1);
        for (int sort : new int[] {-1, 5}) due("item of no sort", x.item(1, sort, 0), -1);
        x.sheet(1, 3, 1);
        due("a sheet made again is all 0", x.item(1, 3, 0), 0);

        promise = 49;
        due("comes from no sheet", x.comes(4, 0), -1);
        due("comes from longs", x.comes(1, 50), -13);
        due("comes from a missing one", x.comes(2, 50), -11);
        x.sheet(2, 2, 6);
        for (int i : new int[] {-1, 2, Integer.MAX_VALUE, Integer.MIN_VALUE}) due("comes from " + i, x.comes(2, i), -12);
        due("comes of no name", x.comes(2, 1), -1);
        int[] told = {9, 534, 21, 0, 12};
        for (int i = 0; i < 5; i++) x.put(2, 1 + i, told[i]);
        due("comes from no name", x.comes(2, 0), -1);
        due("comes", x.comes(2, 1), 0);
        int[] of = {9, 5, 3, 4, 0, 12};
        for (int what = 0; what < 6; what++) due("of one who came from a sheet", x.of(0, what), of[what]);
        due("age of one who came from a sheet", x.of(0, 9), 21);
        for (int i = 1; i < 16; i++) x.comes(2, 1);
        due("comes 17th", x.comes(2, 1), -2);
    }

    private static void papers() {
        promise = 50;
        FriarLists x = bought();
        x.alms(0, 7);
        x.alms(0, 9);
        x.legacy(50);
        for (int s : new int[] {-1, 4}) due("shelf " + s, x.shelf(s, 5, 0), -1);
        for (int what : new int[] {-1, 6}) due("shelf of " + what, x.shelf(0, what, 0), -1);
        int[] many = {2, 1, 2, 6, 4};
        for (int what = 0; what < 5; what++) {
            due("shelf of no " + what, x.shelf(0, what, many[what]), -1);
            due("shelf of no " + what, x.shelf(0, what, -1), -1);
            due("shelf of " + what, x.shelf(0, what, many[what] - 1), 1);
        }
        due("shelf of nothing", x.shelf(0, 5, -99), 1);

        promise = 51;
        x.lose(one(x, 0, 3), 6);
        one(x, 0, 30);
        due("aboard", x.aboard(1, 0), 1);
        due("sail", x.sail(0), 2);
        int[][] things = {{0, 1, 1}, {1, 0, 2}, {2, 1, 3}, {3, 7, 4}, {3, 0, 5}, {3, 1, 6}};
        int[][] above = {{0, 1}, {0, 1, 2}, {0, 3}, {0, 4}, {0, 4, 5}, {0, 4, 5, 6}};
        for (int i = 0; i < things.length; i++) {
            x.shelf(1, things[i][0], things[i][1]);
            for (int as = 0; as <= 14; as++) {
                if (as > 6 && as < 10) continue;
                int want = -13;
                for (int kind : above[i]) if (kind == as) want = things[i][1];
                due("taken as " + as + " of kind " + things[i][2], x.taken(1, as), want);
            }
        }
        for (int s : new int[] {-1, 4}) due("taken from " + s, x.taken(s, 0), -1);
        for (int as : new int[] {-1, 7, 8, 9, 15}) due("taken as " + as, x.taken(1, as), -1);
        due("taken of nothing", x.taken(0, 3), -11);
        due("taken of nothing as a row", x.taken(0, 13), -11);
        x.shelf(0, 3, 6);
        due("taken of one who ran", x.taken(0, 0), -11);
        x.sheet(2, 1, 0);
        x.shelf(0, 4, 2);
        due("taken of a row", x.taken(0, 11), 0);
        due("taken of a row as another", x.taken(0, 12), -13);
        due("taken of a row as a paper", x.taken(0, 0), -13);
        x.shelf(0, 4, 3);
        due("taken of a missing row", x.taken(0, 11), -11);

        acts(x);
    }

    private static void acts(FriarLists x) {
        promise = 52;
        // kind by kind: what the shelf holds, then for each act with x = 10 its answer and its bodies
        acts(x, 0, 1, new int[] {20, 40, 1, 31}, new int[][] {{20, 10}, {11, 20, 10}, {12}, {13, 11, 20, 10}});
        acts(x, 1, 0, new int[] {60, 120 ^ 51, 0, (120 ^ 51) - 50},
            new int[][] {{20, 10}, {30, 11, 20, 10, 20, 10}, {12}, {13, 30, 11, 20, 10, 20, 10}});
        acts(x, 2, 1, new int[] {11, 22, 0, 18}, new int[][] {{10}, {11, 10}, {40, 12}, {41, 13, 11, 10}});
        acts(x, 3, 7, new int[] {17, 27, 0, -3}, new int[][] {{10}, {50, 11, 10}, {12}, {13, 50, 11, 10}});
        acts(x, 3, 2, new int[] {60, 113, -1, 103}, new int[][] {{60, 10}, {50, 11, 60, 10}, {61, 12}, {13, 50, 11, 60, 10}});
        int owed = 2 * 5 * 12 - 7 ^ 9;
        acts(x, 3, 1, new int[] {55, owed, -1, owed - 10 - 1},
            new int[][] {{60, 10}, {70, 50, 11, 60, 10}, {61, 12}, {71, 13, 70, 50, 11, 60, 10, 61, 12}});
        FriarLists far = new FriarLists();
        far.ship(1, 1);
        far.shelf(0, 2, 0);
        for (int v : new int[] {-4, -3, 0, 9}) due("a pass goes from 3 more", far.act(0, 2, v), v + 3);
        due("act wraps", x.act(2, 0, Integer.MAX_VALUE), Integer.MIN_VALUE * 5);
        x.shelf(2, 3, 7);
        due("act: the rest is away", x.act(2, 2, -45), -1);
        due("act: no such act", x.act(2, 4, 1), 0);
        due("no trace then", x.trace(0), -3);
        due("act", x.act(2, 2, 23), 1);
        due("act: no such act", x.act(2, -1, 1), 0);
        due("no trace then", x.many(12), 0);
        for (int s : new int[] {-1, 4}) due("act on " + s, x.act(s, 0, 5), 0);
        x.act(2, 2, 23);
        x.shelf(3, 5, 0);
        due("act on nothing", x.act(3, 0, 5), 0);
        due("no trace then", x.many(12), 0);
        x.act(2, 2, 23);
        x.shelf(3, 4, 2);
        due("act on a row", x.act(3, 0, 5), 0);
        due("no trace then", x.many(12), 0);
        FriarLists y = new FriarLists();
        y.alms(0, 1);
        y.alms(0, 1);
        y.shelf(0, 0, 1);
        due("act: parted by 0", y.act(0, 2, 8), -15);
        due("act behind it", y.act(0, 0, 8), 10);
        one(y, 0, 1);
        one(y, 0, 1);
        y.openBox(0, 7, 50);
        y.buy(1, -1);
        y.shelf(0, 3, 1);
        due("act: parted by 0 in super", y.act(0, 2, 8), -15);
        y.ship(1, 5);
        y.aboard(1, 0);
        y.sails(0, 1, 100);
        y.sail(0);
        due("act: parted by 0 in a part", y.act(0, 3, 8), -15);
        y.weeks(1);
        due("act: off is owed too", y.taken(0, 6), 1);
        y.weeks(2);
        due("act: home is nothing", y.act(0, 0, 8), 0);

        promise = 53;
        for (int i : new int[] {-1, 9, 30, Integer.MAX_VALUE}) due("trace(" + i + ")", x.trace(i), -3);
    }

    private static void acts(FriarLists x, int what, int n, int[] answers, int[][] bodies) {
        x.shelf(2, what, n);
        for (int act = 0; act < 4; act++) {
            String call = "act " + act + " of " + what + ", " + n;
            promise = 52;
            due(call, x.act(2, act, 10), answers[act]);
            promise = 53;
            for (int i = 0; i < bodies[act].length; i++) due(call + ": trace " + i, x.trace(i), bodies[act][i]);
            due(call + ": trace behind", x.trace(bodies[act].length), -3);
            due(call + ": many(12)", x.many(12), bodies[act].length);
        }
    }

    private static void kept() {
        promise = 54;
        FriarLists x = new FriarLists();
        for (int what : new int[] {-1, 15, 19, 28, Integer.MIN_VALUE, Integer.MAX_VALUE}) due("many(" + what + ")", x.many(what), -1);

        promise = 55;
        x = bought();
        x.alms(2, 40);
        x.feed(0, 5);
        x.sheet(0, 2, 3);
        x.legacy(10);
        due("keep()", x.keep(), 1);
        x.feed(0, 5);
        x.sheet(0, 2, 2);
        x.legacy(20);
        x.alms(0, 5);
        x.shelf(0, 1, 1);
        x.shelf(1, 1, 0);
        x.act(1, 0, 1);
        one(x, 0, 1);
        x.mole(1, 99);
        x.weeks(9);
        x.sails(1, 0, 0);
        x.rate(1, 0, 1, 7);
        x.lag(1, 7);
        x.premium(0, 7);
        x.master(0, 4);
        x.sound(2, 4);
        x.news(0, 4);
        x.proof(0, 0);
        x.ship(1, 1);
        x.voyage(1, 1, 1);
        x.openBox(0, 0, 50);
        x.openBox(2, 0, 50);
        x.aboard(0, 1);
        x.twice(0);
        x.turned(1, true);
        x.sick(1, true);
        read(x, "rank 1;");
        read(x, "rank 1;");
        x.feed(0, 6);

        promise = 56;
        due("again()", x.again(), 1);
        int[] many = {0, 6, 0, 1, 1, 1, 0, 0, 2, 0, 1, 6, 2, 9939, 0};
        for (int what = 0; what < many.length; what++) due("many(" + what + ")", x.many(what), many[what]);
        due("item of a sheet", x.item(0, 2, 2), -12);
        due("a legacy that is not there any more", x.taken(0, 2), -11);
        due("a legacy that is", x.taken(1, 2), 0);
        due("row of no captive any more", x.row(0, 0), 6);
        due("judge of it", x.judge(1, 99), 1);
        due("of(0, 12)", x.of(0, 12), -3);
        due("of(0, 13)", x.of(0, 13), 0);
        due("of(1, 7)", x.of(1, 7), -3);
        due("of(1, 8)", x.of(1, 8), 0);
        due("sails", x.sails(1, 0, 0), 250);
        due("rate", x.rate(1, 0, 1, 7), 1000);
        due("lag", x.lag(1, 7), 4);
        due("premium", x.premium(0, 7), 0);
        due("master", x.master(0, 4), 1);
        due("sound", x.sound(2, 4), 1);
        due("rank", x.rank(0, 0), 9);
        due("openBox", x.openBox(2, 7, 0), 1);
        due("alms of the kept box", x.lack(1), 10040);
        x.weeks(3);
        due("again() once more", x.again(), 1);
        due("sails once more", x.sails(1, 0, 0), 250);
        x.weeks(3);
        x.keep();
        x.weeks(3);
        due("again() to the latest", x.again() * 0 + x.many(0), 3);
        keptRules();
        keptShelves();
    }

    /** What again() has taken back is nothing on a SHELF; a row stays there. */
    private static void keptShelves() {
        FriarLists x = new FriarLists();
        x.keep();
        x.alms(0, 7);
        x.legacy(7);
        x.ship(1, 7);
        one(x, 0, 7);
        x.sheet(3, 0, 4);
        for (int what = 0; what < 4; what++) {
            due("shelf", x.shelf(what, what, 0), 1);
            due("taken ahead of again()", x.taken(what, what == 0 ? 1 : what == 1 ? 2 : what == 2 ? 3 : 4), 0);
            due("act ahead of again()", x.act(what, 0, 1), what < 2 ? 8 : 1);
        }
        x.again();
        for (int what = 0; what < 4; what++) {
            due("taken behind again()", x.taken(what, 0), -11);
            due("taken for a row behind again()", x.taken(what, 10), -11);
            due("act behind again()", x.act(what, 0, 1), 0);
            due("no trace then", x.many(12), 0);
        }
        due("shelf of a row", x.shelf(0, 4, 3), 1);
        x.again();
        due("taken of a row behind again()", x.taken(0, 10), 4);
    }

    /** Rules that were read behind keep() leave nothing in those that are read behind again(). */
    private static void keptRules() {
        FriarLists x = new FriarLists();
        one(x, 0, 9);
        x.legacy(9);
        x.keep();
        read(x, "rank 3 if sick; proof 5; bar if not sick; rank 4; left 0 buys sick;");
        due("barred", x.barred(0, 0), 1);
        x.again();
        due("many(6)", x.many(6), 0);
        due("barred behind again()", x.barred(0, 0), 0);
        due("read behind again()", read(x, "rank 5;"), 0);
        due("version(0, 0)", x.version(0, 0), 1);
        due("version(0, 11)", x.version(0, 11), -1);
        due("rank behind again()", x.rank(0, 0), 5);
        due("barred by no line of then", x.barred(0, 0), 0);
        due("may by no line of then", x.may(0, 0, 0), 1);
        due("buy without a proof of then", x.buy(0, 0), 9);
        x.keep();
        read(x, "rank 6;");
        x.again();
        due("rank by the kept rules", x.rank(0, 0), 5);
        due("read", read(x, "rank 7 if not sick and age=20;"), 1);
        due("rank by those read since", x.rank(0, 0), 7);
    }
}
