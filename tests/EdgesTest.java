/**
 * Each sentence of the document that names an edge has a test of its own here, headed by its words, in the document's
 * order: too small, too large, empty, full, what wraps around. (Refused calls and what they leave: RefusalsTest.)
 */
public final class EdgesTest {
    private static final int MIN = Integer.MIN_VALUE, MAX = Integer.MAX_VALUE;

    private static int wrong = 0;
    private static int asked = 0;
    private static int sentences = 0;
    private static String sentence = "";

    /** What follows tests these words of the document. */
    private static void says(String words) {
        sentence = words;
        sentences++;
    }

    private static void due(String call, int got, int want) {
        asked++;
        if (got == want) return;
        wrong++;
        System.out.println("\"" + sentence + "\": " + call + " answered " + got + ", due is " + want);
    }

    public static void main(String[] args) {
        calls();
        weeks();
        captives();
        ages();
        states();
        sickness();
        news();
        asks();
        sounds();
        questions();
        boxes();
        lacks();
        legacies();
        tapes();
        texts();
        faults();
        versions();
        facts();
        rulings();
        proofs();
        rates();
        sails();
        brought();
        roads();
        moles();
        readers();
        buying();
        amiss();
        waits();
        ships();
        voyagesHome();
        quarantines();
        asAWeekComes();
        voyages();
        acts();
        wraps();
        partings();
        traces();
        sheets();
        items();
        comers();
        shelves();
        manys();
        kept();
        System.out.println(wrong == 0 ? sentences + " sentences hold, " + asked + " answers are as due" : wrong + " answers are not as due");
        if (wrong != 0) System.exit(1);
    }

    // ---- what the tests are made of

    private static int name(String letters) {
        int number = 0;
        for (char c : letters.toCharArray()) number = number * 27 + c - 'a' + 1;
        return number;
    }

    /** A captive of 20 years, taken in week 0. */
    private static int one(FriarLists x, int who, int paid) {
        return x.captive(1, who, 20, 0, paid);
    }

    private static FriarLists withCaptives(int n, int paid) {
        FriarLists x = new FriarLists();
        for (int c = 0; c < n; c++) one(x, 0, paid);
        return x;
    }

    /** All of them are bought from the chest, in which nothing is left. */
    private static FriarLists withBought(int n) {
        FriarLists x = withCaptives(n, 5);
        x.openBox(0, 7, 5 * n);
        for (int c = 0; c < n; c++) x.buy(c, -1);
        return x;
    }

    /** All of them are at sea on ship 0, which comes in so many weeks. */
    private static FriarLists withSailors(int n, int weeks) {
        FriarLists x = withBought(n);
        x.sails(1, 0, 100 * weeks);
        x.ship(1, n);
        for (int c = 0; c < n; c++) x.aboard(c, 0);
        x.sail(0);
        return x;
    }

    private static void goTo(FriarLists x, int week) {
        for (int i = 0; i < 10; i++) x.weeks(Math.min(200, week - x.many(0)));
    }

    private static void feed(FriarLists x, String text) {
        for (int from = 0; from < text.length(); from += 8) {
            int n = Math.min(8, text.length() - from);
            long eight = 0;
            for (int i = 0; i < n; i++) eight |= (long) text.charAt(from + i) << 8 * i;
            x.feed(eight, n);
        }
    }

    private static int read(FriarLists x, String text) {
        feed(x, text);
        return x.read();
    }

    private static void isText(String text) {
        due("read of " + text, read(new FriarLists(), text), 0);
    }

    private static void isFault(String text, int place) {
        due("read of " + text, read(new FriarLists(), text), -100 - place);
    }

    // ---- how long an object is used

    private static void calls() {
        says("An object is used for at most 512 calls after it has been made");
        FriarLists x = new FriarLists();
        for (int i = 0; i < 170; i++) {
            x.feed(0x3b31206b6e6172L, 7);
            due("read", x.read(), i < 8 ? i : -2);
            due("many(6)", x.many(6), Math.min(8, i + 1));
        }
        x.captive(1, 0, 20, 0, 7);
        due("the 512th call", x.rank(0, 0), 1);
    }

    // ---- 1

    private static void weeks() {
        says("WEEKS are 0 to 1999");
        FriarLists x = withCaptives(1, 5);
        for (int week : new int[] {0, 1999}) {
            due("ask in week " + week, x.ask(0, week), 5);
            due("rank in week " + week, x.rank(0, week), 9);
            due("barred in week " + week, x.barred(0, week), 0);
        }
        for (int week : new int[] {-1, 2000}) {
            due("ask in week " + week, x.ask(0, week), -1);
            due("rank in week " + week, x.rank(0, week), -1);
            due("barred in week " + week, x.barred(0, week), -1);
        }

        says("NOW is one (0 at first)");
        due("many(0)", new FriarLists().many(0), 0);
        due("captive taken now", x.captive(1, 0, 1, 0, 1), 1);

        says("n WEEKS (1 to 200) go by: NOW");
        due("weeks(1)", x.weeks(1), 1);
        due("weeks(200)", x.weeks(200), 201);
        for (int n : new int[] {0, 201, -1, MIN, MAX}) due("weeks(" + n + ")", x.weeks(n), -1);
        due("many(0)", x.many(0), 201);

        says("STATE: it would be above 1999");
        goTo(x, 1800);
        due("weeks(200)", x.weeks(200), -4);
        due("weeks(199)", x.weeks(199), 1999);
        due("weeks(1)", x.weeks(1), -4);
        due("many(0)", x.many(0), 1999);
        due("captive taken in week 1999", x.captive(1, 0, 1, 1999, 1), 2);
        due("captive taken in week 2000", x.captive(1, 0, 1, 2000, 1), -1);

        says("PARISHES 0 to 5");
        for (int p : new int[] {0, 5}) {
            due("alms to " + p, x.alms(p, 1), p == 0 ? 1 : 2);
            due("captive of " + p, x.captive(1, 100 * p, 1, 0, 1), p == 0 ? 3 : 4);
            due("of a captive of " + p, x.of(p == 0 ? 3 : 4, 1), p);
            due("meant of " + p, x.meant(1, p), p == 0 ? 1 + 2 + 4 + 8 : 16);
        }
        due("captive of 6", x.captive(1, 600, 1, 0, 1), -1);
        due("alms to -1", x.alms(-1, 1), -1);
        due("alms to 6", x.alms(6, 1), -1);

        says("PORTS 0 to 4; PORT 0 is home");
        FriarLists y = new FriarLists();
        due("sails(0, 4)", y.sails(0, 4, 100), 0);
        due("sails(0, 5)", y.sails(0, 5, 100), -1);
        due("sails(-1, 0)", y.sails(-1, 0, 100), -1);
        due("road from 4", y.road(4, 1, 3), 0);
        due("road from home", y.road(0, 1, 0), -1);
        due("road from 5", y.road(5, 1, 0), -1);

        says("MASTERS 0 to 4, each in a PORT (1 to 4; 1 at first)");
        for (int m = 0; m < 5; m++) {
            due("master " + m, y.master(m, 4), 1);
            due("master " + m, y.master(m, 1), 4);
        }
        for (int m : new int[] {-1, 5}) due("master " + m, y.master(m, 1), -1);
        for (int port : new int[] {0, 5}) due("master to " + port, y.master(0, port), -1);
        due("master stays", y.master(0, 2), 1);
    }

    private static void captives() {
        says("CAPTIVES, 16 at most, numbered as they come");
        FriarLists x = new FriarLists();
        due("of none", x.of(0, 0), -1);
        for (int c = 0; c < 16; c++) due("captive", x.captive(1 + c, 0, 1, 0, 1), c);
        due("captive 17th", x.captive(1, 0, 1, 0, 1), -2);
        x.lose(15, 7);
        due("captive 17th while one is dead", x.captive(1, 0, 1, 0, 1), -2);
        for (int c = 0; c < 16; c++) due("name of captive " + c, x.of(c, 0), 1 + c);

        says("a NAME (1 to 6 letters, told as a number: a to z are 1 to 26, the last letter counts once, each one ahead 27 times as much)");
        String[] names = {"a", "z", "aa", "az", "za", "zz", "aaa", "aaaaaa", "azazaz", "zzzzzz"};
        for (String letters : names) {
            FriarLists y = new FriarLists();
            due("captive " + letters, y.captive(name(letters), 0, 1, 0, 1), 0);
            due("name of " + letters, y.of(0, 0), name(letters));
        }
        due("zzzzzz", name("zzzzzz"), 387420488);
        int seven = name("aaaaaa") * 27 + 1;
        for (int none : new int[] {0, 27, 54, 27 * 26, 27 * 27, 27 * 27 + 1, 27 * 27 * 27 + 1, 27 * 27 * 27 * 27, 387420489, 387420490, seven, -1, -28, MIN, MAX}) {
            FriarLists y = new FriarLists();
            due("captive of name " + none, y.captive(none, 0, 1, 0, 1), -1);
            due("key of name " + none, y.key(none), -1);
            due("meant by name " + none, y.meant(none, -1), -1);
            due("question of name " + none, y.question(none, -1), -1);
        }
        FriarLists letters = new FriarLists();
        due("key of td", letters.key(name("bt")), 13);
        due("key of dt", letters.key(name("tb")), 31);

        says("an AGE (1 to 90) and a TRADE (0 to 3)");
        FriarLists y = new FriarLists();
        for (int age : new int[] {0, 91}) due("captive of age " + age, y.captive(1, 0, age, 0, 1), -1);
        due("captive of age 1", y.captive(1, 0, 1, 0, 1), 0);
        due("captive of age 90", y.captive(1, 30, 90, 0, 1), 1);
        due("age 1", y.of(0, 9), 1);
        due("age 90", y.of(1, 9), 90);
        due("trade 3", y.of(1, 2), 3);
        due("captive of trade 4", y.captive(1, 40, 1, 0, 1), -1);
        due("captive of trade 9", y.captive(1, 90, 1, 0, 1), -1);

        says("taken on a WEEK (not behind NOW)");
        due("captive taken tomorrow", y.captive(1, 0, 1, 1, 1), -1);
        due("captive taken ahead of week 0", y.captive(1, 0, 1, -1, 1), -1);
        y.weeks(7);
        due("captive taken in week 8", y.captive(1, 0, 1, 8, 1), -1);
        due("captive taken now", y.captive(1, 0, 1, 7, 1), 2);
        due("captive taken in week 0", y.captive(1, 0, 1, 0, 1), 3);
        due("taken now", y.of(2, 4), 7);
        due("taken in week 0", y.of(3, 4), 0);

        says("held by a MASTER who PAID for them (1 to 999)");
        for (int paid : new int[] {0, 1000, -1}) due("captive for " + paid, y.captive(1, 0, 1, 0, paid), -1);
        due("captive for 1", y.captive(1, 0, 1, 0, 1), 4);
        due("captive for 999", y.captive(1, 4, 1, 0, 999), 5);
        due("paid 1", y.of(4, 5), 1);
        due("paid 999", y.of(5, 5), 999);
        due("master 4", y.of(5, 3), 4);
        due("captive of master 5", y.captive(1, 5, 1, 0, 1), -1);

        says("who: 100 times PARISH, 10 times TRADE, and MASTER (as decimal digits)");
        due("captive 534", y.captive(1, 534, 1, 0, 1), 6);
        for (int what = 1; what < 4; what++) due("of(6, " + what + ")", y.of(6, what), new int[] {0, 5, 3, 4}[what]);
        for (int who : new int[] {535, 544, 634, 1000, 1534, -1, -534, MIN, MAX}) due("captive " + who, y.captive(1, who, 1, 0, 1), -1);

        says("BAD: there is none such, another what (of)");
        for (int what : new int[] {-1, 14}) due("of(0, " + what + ")", y.of(0, what), -1);
        due("of(7, 0)", y.of(7, 0), -1);
        due("of(0, 13)", y.of(0, 13), 0);
    }

    private static void ages() {
        says("AGE in a WEEK: that, and 1 more for each 52 WEEKS since they were taken");
        FriarLists x = new FriarLists();
        x.captive(1, 0, 90, 0, 1);
        x.weeks(10);
        x.captive(1, 0, 1, 10, 1);
        int[] weeks = {10, 51, 52, 61, 62, 103, 104, 113, 114, 1975, 1976, 1999};
        int[] old = {90, 90, 91, 91, 91, 91, 92, 92, 92, 127, 128, 128};
        int[] young = {1, 1, 1, 1, 2, 2, 2, 2, 3, 38, 38, 39};
        for (int i = 0; i < weeks.length; i++) {
            goTo(x, weeks[i]);
            due("age in week " + weeks[i], x.of(0, 9), old[i]);
            due("age in week " + weeks[i] + ", taken in week 10", x.of(1, 9), young[i]);
        }
    }

    private static void states() {
        says("A CAPTIVE is 0 HELD, 1 BOUGHT, 2 AT SEA, 3 OFF (lies off the mole), 4 HOME, 5 INLAND, 6 RUN, 7 DEAD");
        FriarLists x = withCaptives(4, 5);
        due("held", x.of(0, 6), 0);
        x.openBox(0, 7, 5);
        x.buy(0, -1);
        due("bought", x.of(0, 6), 1);
        x.ship(1, 1);
        x.aboard(0, 0);
        due("bought and aboard", x.of(0, 6), 1);
        x.sails(0, 1, 100);
        x.sail(0);
        due("at sea", x.of(0, 6), 2);
        x.weeks(1);
        due("off", x.of(0, 6), 3);
        x.weeks(2);
        due("home", x.of(0, 6), 4);
        for (int to = 5; to < 8; to++) {
            due("lose", x.lose(to - 4, to), 1);
            due("lost", x.of(to - 4, 6), to);
        }

        says("lose: BAD: to isn't one of these; STATE: not HELD");
        FriarLists y = withBought(1);
        one(y, 0, 5);
        for (int to : new int[] {4, 8, 0, -1}) due("lose to " + to, y.lose(1, to), -1);
        due("lose one who is bought", y.lose(0, 5), -4);
        due("lose one who is bought to none", y.lose(0, 4), -1);
        due("lose", y.lose(1, 7), 1);
        due("lose one who is dead", y.lose(1, 7), -4);

        says("A CAPTIVE has turned, or not: 1 if they had, else 0 (not, at first)");
        due("of(0, 8)", y.of(0, 8), 0);
        due("turned", y.turned(0, true), 0);
        due("turned again", y.turned(0, true), 1);
        due("of(0, 8)", y.of(0, 8), 1);
        due("turned back", y.turned(0, false), 1);
        due("turned back again", y.turned(0, false), 0);
    }

    private static void sickness() {
        says("SICK is one from a WEEK on, till healed (both told)");
        FriarLists x = withCaptives(3, 5);
        due("sick at first", x.of(0, 7), -3);
        due("heal one who isn't sick", x.sick(0, false), 0);
        due("sick in week 0", x.sick(0, true), 1);
        due("of(0, 7)", x.of(0, 7), 0);
        x.weeks(5);
        due("sick already", x.sick(0, true), 0);
        due("sick since then", x.of(0, 7), 0);
        x.sick(1, true);
        x.sick(1, false);
        due("healed in the same week", x.of(1, 7), -3);
        due("healed in week 5", x.sick(0, false), 1);
        due("sick anew", x.sick(0, true), 1);
        due("of(0, 7)", x.of(0, 7), 5);
        x.weeks(5);
        due("alive in week 10", x.of(0, 6), 0);
        x.weeks(1);
        due("dead in week 11", x.of(0, 6), 7);
        due("healed long ago", x.of(1, 6), 0);

        says("who is SICK for 6 WEEKS, and is HELD, BOUGHT, AT SEA or OFF, is DEAD, as the WEEK comes that is 6 behind that");
        for (int n : new int[] {5, 6, 200}) {
            FriarLists held = withCaptives(1, 5);
            held.sick(0, true);
            held.weeks(n);
            due("held, sick for " + n, held.of(0, 6), n < 6 ? 0 : 7);
            FriarLists bought = withBought(1);
            bought.sick(0, true);
            bought.weeks(n);
            due("bought, sick for " + n, bought.of(0, 6), n < 6 ? 1 : 7);
            FriarLists atSea = withSailors(1, 9);
            atSea.sick(0, true);
            atSea.weeks(n);
            due("at sea, sick for " + n, atSea.of(0, 6), n < 6 ? 2 : 7);
            FriarLists off = withSailors(2, 1);
            off.sick(1, true);
            off.weeks(1);
            off.sick(0, true);
            off.weeks(n == 200 ? n : n - 1);
            due("off, sick for one week less", off.of(0, 6), n < 200 ? 3 : 7);
            due("off, sick since it sailed", off.of(1, 6), n < 6 ? 3 : 7);
        }
        for (int to = 5; to < 7; to++) {
            FriarLists lost = withCaptives(1, 5);
            lost.sick(0, true);
            lost.lose(0, to);
            lost.weeks(200);
            due("lost, sick for 200", lost.of(0, 6), to);
        }
        FriarLists home = withSailors(1, 1);
        home.weeks(1);
        home.sick(0, true);
        home.weeks(200);
        due("home, sick for 200", home.of(0, 6), 4);
        due("home, sick still", home.of(0, 7), 1);

        says("sick: STATE: HOME, INLAND, RUN, DEAD");
        for (boolean is : new boolean[] {true, false}) {
            due("sick at home", home.sick(0, is), -4);
            FriarLists each = withCaptives(4, 5);
            for (int to = 5; to < 8; to++) {
                each.lose(to - 5, to);
                due("sick of state " + to, each.sick(to - 5, is), -4);
            }
            due("sick who is held", each.sick(3, is), is ? 1 : 0);
            due("sick who is bought", withBought(1).sick(0, is), is ? 1 : 0);
            FriarLists far = withSailors(1, 1);
            due("sick at sea", far.sick(0, is), is ? 1 : 0);
            far.weeks(1);
            due("sick off", far.sick(0, is), 0);
        }
    }

    // ---- 2

    private static void news() {
        says("NEWS, 12 at most, numbered as they come");
        FriarLists x = withCaptives(2, 10);
        for (int i = 0; i < 12; i++) due("news", x.news(0, 9), i);
        due("news 13th", x.news(0, 1), -2);
        due("news 13th of all", x.news(-1, 1), -2);
        due("news 13th of none", x.news(2, 1), -1);

        says("of a CAPTIVE (a letter), or of all (-1: a procession), with a WEIGHT (1 to 9)");
        FriarLists y = withCaptives(2, 10);
        for (int c : new int[] {-2, 2}) due("news of " + c, y.news(c, 1), -1);
        for (int weight : new int[] {0, 10, -1}) due("news of weight " + weight, y.news(0, weight), -1);
        due("news of the last", y.news(1, 1), 0);
        due("news of all", y.news(-1, 9), 1);
        due("ask for the last", y.ask(1, 4), 20);
        due("ask for the first", y.ask(0, 4), 19);
        one(y, 0, 10);
        due("ask for one who came later", y.ask(2, 4), 19);

        says("A MASTER HEARS it LAG WEEKS later; LAG of a PORT: 1 to 20 (4 at first; as it is now)");
        FriarLists z = withCaptives(1, 10);
        z.weeks(30);
        z.news(0, 1);
        due("ask in week 33", z.ask(0, 33), 10);
        due("ask in week 34", z.ask(0, 34), 11);
        for (int lag : new int[] {0, 21, -1}) due("lag " + lag, z.lag(1, lag), -1);
        due("lag 1", z.lag(1, 1), 4);
        due("ask in week 30", z.ask(0, 30), 10);
        due("ask in week 31", z.ask(0, 31), 11);
        due("lag 20", z.lag(1, 20), 1);
        due("ask in week 49", z.ask(0, 49), 10);
        due("ask in week 50", z.ask(0, 50), 11);
        due("lag of home", z.lag(0, 4), -1);
        due("lag of port 5", z.lag(5, 4), -1);
        due("lag of port 4", z.lag(4, 1), 4);
        z.master(0, 4);
        due("ask in week 31 by a master who went", z.ask(0, 31), 11);
        due("ask in week 30 by a master who went", z.ask(0, 30), 10);

        says("told NOW");
        FriarLists late = withCaptives(1, 10);
        goTo(late, 1980);
        late.news(0, 1);
        late.lag(1, 19);
        due("ask in week 1998", late.ask(0, 1998), 10);
        due("ask in week 1999", late.ask(0, 1999), 11);
        late.lag(1, 20);
        due("ask in week 1999, heard in 2000", late.ask(0, 1999), 10);
    }

    private static void asks() {
        says("PREMIUM of the TRADE (0 to 500; 0 at first)");
        FriarLists x = new FriarLists();
        one(x, 30, 7);
        one(x, 20, 7);
        for (int trade : new int[] {-1, 4}) due("premium of " + trade, x.premium(trade, 1), -1);
        for (int n : new int[] {-1, 501}) due("premium " + n, x.premium(3, n), -1);
        due("premium", x.premium(3, 500), 0);
        due("ask", x.ask(0, 0), 507);
        due("ask of another trade", x.ask(1, 0), 7);
        due("premium", x.premium(3, 0), 500);
        due("ask", x.ask(0, 0), 7);
        for (int trade = 0; trade < 3; trade++) due("premium at first", x.premium(trade, 0), 0);

        says("times (100 and 10 for each WEIGHT of NEWS ...) by 100, cut");
        FriarLists y = withCaptives(1, 1);
        one(y, 0, 19);
        one(y, 0, 999);
        y.news(-1, 9);
        due("ask for 1 with 190", y.ask(0, 4), 1);
        due("ask for 19 with 190", y.ask(1, 4), 36);
        y.news(0, 1);
        due("ask for 1 with 200", y.ask(0, 4), 2);
        for (int i = 0; i < 10; i++) y.news(i < 9 ? -1 : 2, 9);
        y.premium(0, 500);
        due("ask for 999 with eleven of twelve", y.ask(2, 4), 1499 * 1090 / 100);
        due("ask for 1 with eleven of twelve", y.ask(0, 4), 501 * 1010 / 100);
        FriarLists z = withCaptives(1, 999);
        z.premium(0, 500);
        for (int i = 0; i < 12; i++) z.news(0, 9);
        due("the greatest ask", z.ask(0, 4), 17688);
        due("the greatest ask is in no legacy", z.legacy(9999), 0);
        z.weeks(4);
        due("buy for the greatest ask", z.buy(0, 0), -4);
        z.openBox(0, 7, 9999);
        due("buy for the greatest ask", z.buy(0, -1), -4);
        z.openBox(0, 7, 7688);
        due("buy for the greatest ask, 1 is lacking", z.buy(0, -1), -4);
        z.openBox(0, 7, 1);
        due("buy for the greatest ask", z.buy(0, -1), 17688);
        due("what it cost", z.of(0, 10), 17688);
        due("the chest is empty", z.many(13), 0);
        due("the least ask", withCaptives(1, 1).ask(0, 0), 1);
    }

    // ---- 3

    private static void sounds() {
        says("each letter has a class, 0 to 5. At first a e h i o u y: 0; b f p v w: 1; c g j k q s x z: 2; d t: 3; l r: 4; m n: 5");
        String[] classes = {"aehiouy", "bfpvw", "cgjkqsxz", "dt", "lr", "mn"};
        for (int c = 0; c < 6; c++) {
            for (char letter : classes[c].toCharArray()) {
                FriarLists x = new FriarLists();
                due("class of " + letter, x.sound(letter - 'a' + 1, 5 - c), c);
                due("class of " + letter, x.sound(letter - 'a' + 1, c), 5 - c);
                due("key of " + letter, x.key(letter - 'a' + 1), c);
            }
        }
        FriarLists x = new FriarLists();
        for (int letter : new int[] {0, 27, -1, MIN, MAX}) due("sound " + letter, x.sound(letter, 0), -1);
        for (int c : new int[] {-1, 6, MIN, MAX}) due("class " + c, x.sound(1, c), -1);
        due("class 5", x.sound(1, 5), 0);
        due("class 0", x.sound(1, 0), 5);

        says("letter by letter, the class of each that is not 0 and not that of the letter just ahead of it");
        String[] names = {"bb", "bf", "bab", "bhhb", "abba", "btb", "bbbbbb", "bbtttb", "rl", "rml", "tbtbtb", "mnlrdt"};
        int[] keys = {1, 1, 11, 11, 1, 131, 1, 131, 4, 454, 313131, 543};
        for (int i = 0; i < names.length; i++) due("key of " + names[i], x.key(name(names[i])), keys[i]);

        says("KEY of a NAME as decimal digits (0: empty)");
        for (String empty : new String[] {"a", "aa", "aeiouy", "hhhhhh"}) due("key of " + empty, x.key(name(empty)), 0);
        due("key of six", x.key(name("mtmtmt")), 535353);

        says("Two NAMES sound ALIKE, if their KEYS are the same (empty ones, too)");
        x.captive(name("hey"), 0, 1, 0, 1);
        x.captive(name("bob"), 0, 1, 0, 1);
        due("meant by an empty key", x.meant(name("a"), -1), 1);
        due("meant by 11", x.meant(name("pip"), -1), 2);
        due("meant by 1", x.meant(name("pp"), -1), 0);

        says("MEANT by a NAME of a LIST (and a PARISH, or any): in any state");
        FriarLists none = new FriarLists();
        due("meant of nobody", none.meant(1, -1), 0);
        FriarLists all = withCaptives(16, 1);
        for (int to = 5; to < 8; to++) all.lose(to, to);
        due("meant of all", all.meant(1, -1), 65535);
        due("meant of parish 0", all.meant(1, 0), 65535);
        due("meant of parish 5", all.meant(1, 5), 0);
        for (int parish : new int[] {-2, 6}) due("meant of parish " + parish, all.meant(1, parish), -1);
    }

    private static void questions() {
        says("the one of which the greatest number of them have one answer is the least; of several the first");
        int[][] whos = {{0, 100}, {0, 10}, {0, 1}, {0, 0}, {0, 111}, {0, 11}, {0, 101}};
        int[] due = {0, 1, 2, 0, 0, 1, 0};
        for (int i = 0; i < whos.length; i++) {
            FriarLists x = new FriarLists();
            for (int who : whos[i]) one(x, who, 1);
            due("question of " + whos[i][0] + " and " + whos[i][1], x.question(1, -1), due[i]);
        }
        FriarLists x = new FriarLists();
        for (int who : new int[] {0, 0, 110, 220}) one(x, who, 1);
        due("two, one, one of both: the first", x.question(1, -1), 0);
        one(x, 120, 1);
        due("two at most of parish and trade: the first", x.question(1, -1), 0);
        one(x, 130, 1);
        due("three of parish 1, two of a trade", x.question(1, -1), 1);
        FriarLists all = withCaptives(16, 1);
        due("sixteen alike", all.question(1, -1), 0);

        says("3 AGE NOW by 10");
        FriarLists y = new FriarLists();
        y.captive(1, 0, 9, 0, 1);
        y.captive(1, 0, 10, 0, 1);
        due("9 and 10", y.question(1, -1), 3);
        FriarLists z = new FriarLists();
        z.captive(1, 0, 10, 0, 1);
        z.captive(1, 0, 19, 0, 1);
        due("10 and 19", z.question(1, -1), 0);
        z.weeks(51);
        due("10 and 19, 51 weeks on", z.question(1, -1), 0);
        z.weeks(1);
        due("11 and 20", z.question(1, -1), 3);

        says("NONE: fewer than two are MEANT");
        FriarLists w = new FriarLists();
        due("question of none", w.question(1, -1), -3);
        one(w, 0, 1);
        due("question of one", w.question(1, -1), -3);
        one(w, 100, 1);
        due("question of two", w.question(1, -1), 0);
        due("question of one in the parish", w.question(1, 1), -3);
        due("question of none in the parish", w.question(1, 2), -3);
    }

    // ---- 4

    private static void boxes() {
        says("ALMS, 24 at most: an amount (1 to 99) comes to a BOX, NOW");
        FriarLists x = new FriarLists();
        for (int amount : new int[] {0, 100, -1}) due("alms of " + amount, x.alms(0, amount), -1);
        for (int i = 1; i <= 24; i++) due("alms", x.alms(i % 6, i % 2 == 0 ? 1 : 99), i);
        due("alms 25th", x.alms(0, 1), -2);
        due("alms 25th of 0", x.alms(0, 0), -1);
        due("many(3)", x.many(3), 24);

        says("OPENINGS, 12 at most, numbered as they come");
        for (int i = 0; i < 12; i++) due("openBox", x.openBox(i % 6, 7, 0), i);
        due("openBox 13th", x.openBox(0, 7, 0), -2);
        due("openBox 13th with key 8", x.openBox(0, 8, 0), -1);
        due("the sum of box 0", x.lack(0), 10004);
        due("the sum of box 1", x.lack(1), 10396);
        due("nothing came since", x.lack(6), 10000);

        says("a BOX is opened NOW with some of three KEYS (bits)");
        FriarLists y = new FriarLists();
        for (int keys : new int[] {-1, 8}) due("keys " + keys, y.openBox(0, keys, 0), -1);
        due("keys 0", y.openBox(0, 0, 0), 0);
        due("keys 7", y.openBox(0, 7, 0), 1);

        says("so much (0 to 9999) is found, and goes to THE CHEST (0 at first)");
        due("the chest at first", y.many(13), 0);
        for (int found : new int[] {-1, 10000}) due("found " + found, y.openBox(0, 7, found), -1);
        due("found 0", y.openBox(0, 7, 0), 2);
        due("the chest", y.many(13), 0);
        for (int i = 3; i < 12; i++) y.openBox(0, 7, 9999);
        due("the chest", y.many(13), 9 * 9999);
        FriarLists most = new FriarLists();
        for (int i = 0; i < 12; i++) most.openBox(5, 7, 9999);
        due("the fullest chest", most.many(13), 119988);

        says("IRREGULAR are OPENINGS without all three KEYS");
        for (int keys = 0; keys < 8; keys++) {
            FriarLists z = new FriarLists();
            z.openBox(0, keys, 0);
            due("irregular with keys " + keys, z.many(14), keys == 7 ? 0 : 1);
        }
        FriarLists twelve = new FriarLists();
        due("irregular at first", twelve.many(14), 0);
        for (int i = 0; i < 12; i++) twelve.openBox(0, 6, 0);
        due("twelve are irregular", twelve.many(14), 12);
    }

    private static void lacks() {
        says("ALMS that came to that BOX since its OPENING ahead (as they were told; since the beginning without), less what was found (it may be below 0)");
        FriarLists x = new FriarLists();
        x.alms(0, 5);
        x.alms(1, 70);
        x.openBox(0, 7, 2);
        x.alms(0, 4);
        x.openBox(0, 7, 5);
        x.openBox(0, 7, 0);
        x.weeks(9);
        x.alms(0, 1);
        x.openBox(0, 7, 9999);
        x.openBox(1, 7, 70);
        int[] lacks = {3, -1, 0, -9998, 0};
        for (int i = 0; i < lacks.length; i++) due("lack(" + i + ")", x.lack(i), 10000 + lacks[i]);
        for (int i : new int[] {-1, 5}) due("lack(" + i + ")", x.lack(i), -1);
        FriarLists none = new FriarLists();
        due("lack of none", none.lack(0), -1);
        none.openBox(3, 7, 9999);
        due("the least lack", none.lack(0), 1);
        FriarLists most = new FriarLists();
        for (int i = 0; i < 24; i++) most.alms(5, 99);
        most.openBox(5, 7, 0);
        due("the greatest lack", most.lack(0), 10000 + 24 * 99);
        due("the next lack", most.openBox(5, 7, 0) * 0 + most.lack(1), 10000);

        says("SHORT is a PARISH since the WEEK of the OPENING ahead (0 without) of the first of its OPENINGS with a LACK above 0");
        FriarLists y = new FriarLists();
        y.weeks(3);
        due("short without an opening", y.shortSince(0), -3);
        y.alms(0, 1);
        y.openBox(0, 7, 1);
        due("short with a lack of 0", y.shortSince(0), -3);
        y.weeks(1);
        y.openBox(0, 7, 1);
        due("short with a lack below 0", y.shortSince(0), -3);
        y.weeks(1);
        y.openBox(1, 7, 0);
        y.alms(0, 1);
        y.openBox(0, 7, 0);
        due("short with a lack of 1", y.shortSince(0), 4);
        y.weeks(1);
        y.alms(0, 9);
        y.openBox(0, 7, 0);
        due("short by the first", y.shortSince(0), 4);
        due("short of another parish", y.shortSince(1), -3);
        y.alms(1, 9);
        y.openBox(1, 7, 8);
        due("short of another parish", y.shortSince(1), 5);
        y.alms(5, 1);
        y.openBox(5, 7, 0);
        due("short without an opening ahead", y.shortSince(5), 0);
        for (int parish : new int[] {-1, 6}) due("short of " + parish, y.shortSince(parish), -1);
    }

    private static void legacies() {
        says("LEGACIES, 6 at most, numbered as they come: an amount (1 to 9999)");
        FriarLists x = new FriarLists();
        due("legacyOf none", x.legacyOf(0, 0), -1);
        for (int amount : new int[] {0, 10000, -1}) due("legacy of " + amount, x.legacy(amount), -1);
        for (int l = 0; l < 6; l++) due("legacy", x.legacy(l == 5 ? 9999 : 1 + l), l);
        due("legacy 7th", x.legacy(1), -2);
        due("legacy 7th of 0", x.legacy(0), -1);
        for (int l = 0; l < 6; l++) {
            for (int what = 0; what < 2; what++) due("legacyOf(" + l + ", " + what + ")", x.legacyOf(l, what), l == 5 ? 9999 : 1 + l);
            due("legacyOf(" + l + ", 2)", x.legacyOf(l, 2), 0);
        }
        for (int what : new int[] {-1, 3}) due("legacyOf(0, " + what + ")", x.legacyOf(0, what), -1);
        for (int l : new int[] {-1, 6}) due("legacyOf(" + l + ", 0)", x.legacyOf(l, 0), -1);
    }

    // ---- 5

    private static void tapes() {
        says("THE TAPE takes bytes, 250 at most");
        FriarLists x = new FriarLists();
        due("many(11)", x.many(11), 0);
        for (int i = 1; i <= 31; i++) due("feed", x.feed(0x2020202020202020L, 8), 8 * i);
        due("feed to 251", x.feed(0x6b6e6172L, 3), -2);
        due("feed to 256", x.feed(0x6b6e6172L, 8), -2);
        due("feed to 250", x.feed(0x3b3bL, 2), 250);
        due("feed to 251", x.feed(0x3bL, 1), -2);
        due("many(11)", x.many(11), 250);
        due("read: of what was refused nothing is there", x.read(), -100 - 248);

        says("n bytes (1 to 8) come to THE TAPE, the lowest of eight first");
        FriarLists y = new FriarLists();
        for (int n : new int[] {0, 9, -1, MIN, MAX}) due("feed " + n, y.feed(0, n), -1);
        due("feed 7, not the eighth", y.feed(0x213b31206b6e6172L, 7), 7);
        due("read", y.read(), 0);
        due("feed 8", y.feed(0x213b31206b6e6172L, 8), 8);
        due("read", y.read(), -107);
        due("feed 8, the highest bit is set", y.feed(0xbb3b31206b6e6172L, 8), 8);
        due("read", y.read(), -107);
        due("feed 1", y.feed(0xffffffffffffff20L, 1), 1);
        due("read", y.read(), 1);

        says("read() uses it up");
        due("many(11) behind a text", y.many(11), 0);
        read(y, "ran");
        due("many(11) behind a fault", y.many(11), 0);
        for (int v = 2; v < 8; v++) due("read", y.read(), v);
        due("read of a ninth", read(y, "rank 1;"), -2);
        due("many(11) behind a ninth", y.many(11), 0);
        due("read of a ninth fault", read(y, "rank"), -104);
        due("many(11) behind a ninth fault", y.many(11), 0);
    }

    private static void texts() {
        says("TEXT: { LINE ; }, 9 LINES at most");
        isText("");
        isText(" ");
        isText("rank 1;");
        isText("rank 1;".repeat(9));
        isText("rank 1;".repeat(9) + " ");
        isFault("rank 1;".repeat(9) + "rank 1;", 63);
        isFault("rank 1;".repeat(9) + "  proof 1;", 65);
        isFault("rank 1;".repeat(9) + ";", 63);
        FriarLists x = new FriarLists();
        read(x, "");
        due("lines of an empty text", x.version(0, 0), 0);
        read(x, "proof 1;".repeat(9));
        due("lines of nine", x.version(1, 0), 9);
        due("the ninth line", x.version(1, 18), 3);

        says("N: 0 to 999 (of rank and proof 0 to 9, of left 0 to 5)");
        for (String word : new String[] {"rank ", "proof "}) {
            isText(word + "0;");
            isText(word + "9;");
            isFault(word + "10;", word.length());
            isFault(word + "999;", word.length());
        }
        isText("left 0 buys sick;");
        isText("left 5 buys sick;");
        isFault("left 6 buys sick;", 5);
        isFault("left 10 buys sick;", 5);
        for (String fact : new String[] {"age", "weeks", "trade", "parish", "paid", "master"}) {
            isText("bar if " + fact + "<0;");
            isText("bar if " + fact + ">999;");
            isFault("bar if " + fact + "=1000;", 8 + fact.length());
        }

        says("NUMBERS rows of digits (3 at most)");
        isText("rank 009;");
        isText("left 005 buys sick;");
        isText("bar if age=000;");
        isFault("rank 0009;", 5);
        isFault("bar if age=0000;", 11);
        isFault("bar if age=99999999999999999999;", 11);

        says("WORDS are rows of letters a to z, as long as they go; blanks (32) between");
        isText("rank1if age<5or not(sick)and turned;");
        isText("   rank   1   ;   ");
        isText("bar if not not not sick;");
        isFault("rank 1 ifsick;", 7);
        isFault("bar if sickor turned;", 7);
        isFault("bar if notsick;", 7);
        isFault("barif sick;", 0);
        isFault("bar if a ge<5;", 7);
        isFault("bar if age<5 5;", 13);
        isFault("bar\tif sick;", 3);
        isFault("bar\nif sick;", 3);
        isFault("bar if sick;\n", 12);
        isFault("Bar if sick;", 0);
        isFault("bar if sicK;", 7);

        says("At most 4 \"(\" are open within one another");
        isText("bar if ((((sick))));");
        isText("bar if ((((sick)))) and ((((sick))));");
        isText("bar if (((sick) or (sick)) or (((sick))));");
        isFault("bar if (((((sick)))));", 11);
        isFault("bar if ((((sick)))) or (((((sick)))));", 27);
        isFault("bar if (not (sick and (turned or (not (sick)))));", 38);
    }

    private static void faults() {
        says("FAULT: the place (from 0) of the first byte of the first WORD, NUMBER or other byte with which no TEXT goes on");
        isFault("if", 0);
        isFault("7", 0);
        isFault("(", 0);
        isFault("\u0000", 0);
        isFault("\u007f", 0);
        isFault("\u00ff", 0);
        isFault("\u00f2ank 1;", 0);
        isFault("\u00a0rank 1;", 0);
        isFault("rank\u00a01;", 4);
        isFault("rank \u00b1;", 5);
        isFault("rank 1\u00bb", 6);
        isFault("`rank 1;", 0);
        isFault("{rank 1;", 0);
        isFault("rank/1;", 4);
        isFault("rank:1;", 4);
        isFault("rank sick;", 5);
        isFault("rank 1 sick;", 7);
        isFault("rank 1 if if;", 10);
        isFault("bar 1;", 4);
        isFault("bar;", 3);
        isFault("left sick;", 5);
        isFault("left 1 if sick;", 7);
        isFault("left 1;", 6);
        isFault("left 1 buys;", 11);
        isFault("proof;", 5);
        isFault("proof 1 if sick;", 8);
        isFault("bar if age;", 10);
        isFault("bar if age not;", 11);
        isFault("bar if age<sick;", 11);
        isFault("bar if age<>5;", 11);
        isFault("bar if 5=age;", 7);
        isFault("bar if and;", 7);
        isFault("bar if sick not turned;", 12);
        isFault("bar if sick and;", 15);
        isFault("bar if sick or or sick;", 15);
        isFault("bar if not;", 10);
        isFault("bar if ();", 8);
        isFault("bar if (sick;", 12);
        isFault("bar if sick);", 11);
        isFault("bar if (sick));", 13);
        isFault("rank 1;;", 7);
        isFault("rank 1;bar if sick;x", 19);

        says("or the end (how many bytes there are), if more must come");
        for (String part : new String[] {"rank", "rank 1", "rank 1 if", "bar", "bar if", "left", "left 1", "left 1 buys", "proof", "proof 1", "bar if not",
            "bar if (", "bar if (sick", "bar if (sick)", "bar if age", "bar if age<", "bar if age<5", "bar if sick and", "bar if sick or", "bar if turned"}) {
            isFault(part, part.length());
            isFault(part + "   ", part.length() + 3);
        }
        FriarLists x = new FriarLists();
        String longest = "rank 1 if sick" + " ".repeat(236);
        due("read of 250 bytes, more must come", read(x, longest), -350);
        due("read of 250 bytes", read(x, longest.substring(0, 249) + ";"), 0);
        due("the longest condition", read(x, "bar if sick" + " or sick".repeat(29) + ";"), 1);
        String deep = "bar if not((((age=20))))";
        due("the longest with brackets", read(x, deep + (" or " + deep.substring(7)).repeat(10) + ";"), 2);
        one(x, 0, 1);
        due("barred by the longest with brackets", x.barred(0, 0), 0);
        x.captive(1, 0, 21, 0, 1);
        due("barred by the longest with brackets", x.barred(1, 0), 1);
        due("read of what can be joined no tighter", read(x, "bar if age<1" + "or age<1".repeat(29) + ";"), 3);
        due("barred by it", x.barred(0, 0), 0);
        due("read of it with the last one true", read(x, "bar if age<1" + "or age<1".repeat(28) + "or age>1;"), 4);
        due("barred by the last one", x.barred(0, 0), 1);
    }

    private static void versions() {
        says("VERSIONS, 8 at most, numbered as they come (FULL behind a FAULT)");
        FriarLists x = new FriarLists();
        due("version of none", x.version(0, 0), -1);
        for (int v = 0; v < 8; v++) due("read", read(x, "rank 1;".repeat(v)), v);
        due("read of a ninth", read(x, "rank 9;"), -2);
        due("read of a ninth with a fault at 0", read(x, ";"), -100);
        due("read of a ninth of nothing", x.read(), -2);
        for (int v = 0; v < 8; v++) due("lines of version " + v, x.version(v, 0), v);
        for (int v : new int[] {-1, 8, MIN, MAX}) due("version " + v, x.version(v, 0), -1);

        says("10 + i of LINE i its sort (0 rank, 1 bar, 2 left, 3 proof), 30 + i its N (NONE of bar). BAD: another what");
        FriarLists y = new FriarLists();
        y.weeks(5);
        read(y, "bar if sick;proof 0;left 5 buys sick;rank 9;rank 0 if sick;bar if sick;proof 9;left 0 buys sick;bar if sick;");
        int[] sorts = {1, 3, 2, 0, 0, 1, 3, 2, 1};
        int[] ns = {-3, 0, 5, 9, 0, -3, 9, 0, -3};
        due("lines", y.version(0, 0), 9);
        due("from which week", y.version(0, 1), 5);
        for (int i = 0; i < 9; i++) {
            due("sort of line " + i, y.version(0, 10 + i), sorts[i]);
            due("N of line " + i, y.version(0, 30 + i), ns[i]);
        }
        for (int what : new int[] {-1, 2, 9, 19, 20, 29, 39, 40, MIN, MAX}) due("version(0, " + what + ")", y.version(0, what), -1);
        read(y, "rank 1;");
        for (int what : new int[] {11, 31}) due("version(1, " + what + ")", y.version(1, what), -1);
        read(y, "");
        for (int what : new int[] {10, 30}) due("version(2, " + what + ")", y.version(2, what), -1);

        says("in a WEEK THE RULES are the latest that were read on it or ahead (none: an empty TEXT)");
        FriarLists z = withCaptives(1, 1);
        z.legacy(1);
        z.weeks(3);
        read(z, "rank 1;bar if not sick;left 0 buys sick;");
        z.weeks(2);
        read(z, "rank 2;");
        read(z, "rank 3;");
        int[] rank = {9, 9, 9, 1, 1, 3, 3};
        for (int week = 0; week < 7; week++) {
            due("rank in week " + week, z.rank(0, week), rank[week]);
            due("barred in week " + week, z.barred(0, week), rank[week] == 1 ? 1 : 0);
            due("may in week " + week, z.may(0, 0, week), rank[week] == 1 ? 0 : 1);
        }
        due("rank in week 1999", z.rank(0, 1999), 3);
        read(z, "");
        due("rank by an empty text", z.rank(0, 5), 9);
        due("rank ahead of the empty text", z.rank(0, 4), 1);
    }

    /** Whether a condition holds for captive 0 in a week: by rank, bar and left alike. */
    private static void holds(FriarLists x, String cond, int week, boolean want) {
        x.keep();
        read(x, "rank 4 if " + cond + ";bar if " + cond + ";left 0 buys " + cond + ";");
        String call = cond + " in week " + week;
        due("rank if " + call, x.rank(0, week), want ? 4 : 9);
        due("barred if " + call, x.barred(0, week), want ? 1 : 0);
        due("may if " + call, x.may(0, 0, week), want ? 1 : 0);
        x.again();
    }

    /** In week 10 one captive, taken in week 5, of whom each number is as great as may be. */
    private static FriarLists withGreatest() {
        FriarLists x = new FriarLists();
        x.legacy(1);
        x.weeks(5);
        x.captive(1, 534, 90, 5, 999);
        x.weeks(5);
        return x;
    }

    private static void facts() {
        says("weeks since they were taken (by that WEEK; not below 0)");
        FriarLists x = withGreatest();
        FriarLists early = new FriarLists();
        early.legacy(1);
        read(early, "rank 0 if weeks=0;rank 1 if weeks<2;rank 2;");
        early.weeks(5);
        early.captive(1, 0, 90, 5, 1);
        int[] ranks = {0, 0, 0, 0, 0, 0, 1, 2};
        for (int week = 0; week < 8; week++) due("rank by weeks in week " + week, early.rank(0, week), ranks[week]);
        holds(x, "weeks=5", 10, true);
        holds(x, "weeks<5", 10, false);
        holds(x, "weeks>5", 10, false);
        holds(x, "weeks>5", 11, true);
        holds(x, "weeks>999", 1004, false);
        holds(x, "weeks>999", 1005, true);

        says("FACT: age | weeks | trade | parish | paid | master, SIGN: < | = | >");
        String[] facts = {"age", "trade", "parish", "paid", "master"};
        int[] of = {90, 3, 5, 999, 4};
        for (int i = 0; i < facts.length; i++) {
            FriarLists greatest = withGreatest();
            for (int by = -1; by < 2 && of[i] + by < 1000; by++) {
                int n = of[i] + by;
                holds(greatest, facts[i] + "<" + n, 10, by > 0);
                holds(greatest, facts[i] + "=" + n, 10, by == 0);
                holds(greatest, facts[i] + ">" + n, 10, by < 0);
            }
        }
        FriarLists least = withCaptives(1, 1);
        least.legacy(1);
        for (String fact : new String[] {"weeks", "trade", "parish", "master"}) {
            holds(least, fact + "=0", 0, true);
            holds(least, fact + "<0", 0, false);
            holds(least, fact + ">0", 0, false);
        }

        says("age: AGE in that WEEK");
        x = withGreatest();
        holds(x, "age=90", 56, true);
        holds(x, "age=90", 57, false);
        holds(x, "age=91", 57, true);
        holds(x, "age=128", 1980, false);
        holds(x, "age=128", 1981, true);

        says("sick: SICK since that WEEK or ahead (now)");
        FriarLists y = withCaptives(1, 1);
        y.legacy(1);
        read(y, "");
        y.weeks(3);
        read(y, "rank 0 if sick;rank 1;");
        y.weeks(2);
        y.sick(0, true);
        int[] bySick = {9, 9, 9, 1, 1, 0, 0};
        for (int week = 0; week < 7; week++) due("rank by sick in week " + week, y.rank(0, week), bySick[week]);
        due("rank by sick in week 1999", y.rank(0, 1999), 0);
        y.sick(0, false);
        due("rank, healed", y.rank(0, 5), 1);
        due("rank, healed", y.rank(0, 1999), 1);
        y.sick(0, true);
        y.weeks(6);
        due("rank of one who died of it", y.rank(0, 5), 0);

        says("turned: as told (not, at first)");
        holds(x, "turned", 10, false);
        x.turned(0, true);
        holds(x, "turned", 10, true);
        holds(x, "turned", 1999, true);
        holds(x, "not turned", 10, false);
        holds(x, "not not turned", 10, true);

        says("COND: ALL { or ALL }, ALL: ONE { and ONE }, ONE: { not } ( ... )");
        x = withGreatest();
        x.turned(0, true);
        holds(x, "turned or sick and sick", 10, true);
        holds(x, "(turned or sick) and sick", 10, false);
        holds(x, "sick and sick or turned", 10, true);
        holds(x, "sick and (sick or turned)", 10, false);
        holds(x, "not sick and turned", 10, true);
        holds(x, "not turned or not sick", 10, true);
        holds(x, "not (turned or sick)", 10, false);
        holds(x, "not (turned and sick)", 10, true);
        holds(x, "((((turned))))", 10, true);
        holds(x, "((((sick))))", 10, false);
    }

    private static void rulings() {
        says("RANK: N of the first rank whose COND holds (9 without)");
        FriarLists x = withCaptives(1, 1);
        x.legacy(1);
        x.legacy(1);
        String[] texts = {"", "rank 0;", "rank 5;rank 0;", "rank 5 if sick;rank 0;", "rank 5 if sick;rank 9;rank 1;", "bar if sick;proof 3;left 1 buys sick;",
            "rank 1 if sick;rank 2 if turned;", "rank 0 if age=20;"};
        int[] ranks = {9, 0, 5, 0, 9, 9, 9, 0};
        for (int i = 0; i < texts.length; i++) {
            due("read", read(x, texts[i]), i);
            due("rank by " + texts[i], x.rank(0, 0), ranks[i]);
        }

        says("BARRED: the COND of some bar holds");
        FriarLists y = withCaptives(1, 1);
        due("barred without rules", y.barred(0, 0), 0);
        String nine = "bar if sick;".repeat(8);
        read(y, nine + "bar if sick;");
        due("barred by none of nine", y.barred(0, 0), 0);
        read(y, nine + "bar if age=20;");
        due("barred by the ninth", y.barred(0, 0), 1);
        read(y, "bar if age=20;" + nine);
        due("barred by the first", y.barred(0, 0), 1);

        says("A LEGACY n MAY buy a CAPTIVE, if the COND of the first left n holds, or there is none");
        FriarLists z = withCaptives(1, 1);
        for (int l = 0; l < 6; l++) z.legacy(1);
        for (int l = 0; l < 6; l++) due("may without rules", z.may(l, 0, 0), 1);
        read(z, "left 5 buys sick;left 5 buys age=20;left 0 buys age=20;left 0 buys sick;left 2 buys sick;");
        int[] may = {1, 1, 0, 1, 1, 0};
        for (int l = 0; l < 6; l++) due("may of legacy " + l, z.may(l, 0, 0), may[l]);
        for (int l : new int[] {-1, 6}) due("may of legacy " + l, z.may(l, 0, 0), -1);
        for (int c : new int[] {-1, 1}) due("may of captive " + c, z.may(0, c, 0), -1);
        for (int week : new int[] {-1, 2000}) due("may in week " + week, z.may(0, 0, week), -1);
        due("may in week 1999, at the age of 58", z.may(0, 0, 1999), 0);
        due("may in week 1999 without a left", z.may(1, 0, 1999), 1);
    }

    private static void proofs() {
        says("PROOFS of a CAPTIVE, 20 at most of all");
        FriarLists x = withCaptives(16, 1);
        for (int i = 0; i < 20; i++) due("proof", x.proof(i % 16, i / 16), i < 16 ? 1 : 2);
        due("many(7)", x.many(7), 20);
        due("proof 21st", x.proof(0, 5), -2);
        due("proof 21st of a debtor", x.proof(0, -1), -2);
        due("proof 21st of nobody", x.proof(16, 5), -1);
        due("proof 21st by parish 6", x.proof(0, 6), -1);

        says("told by a PARISH, or by a debtor (which counts not); two of one PARISH are one");
        FriarLists y = withCaptives(2, 1);
        due("proof of a debtor", y.proof(0, -1), 0);
        for (int p = 0; p < 6; p++) due("proof of " + p, y.proof(0, p), 1 + p);
        for (int p = -1; p < 6; p++) due("proof of " + p + " again", y.proof(0, p), 6);
        due("proof of another captive", y.proof(1, 5), 1);
        due("many(7): all", y.many(7), 15);
        for (int p : new int[] {-2, 6}) due("proof of " + p, y.proof(0, p), -1);

        says("PROOFS that are wanted: the latest proof (0 without)");
        FriarLists z = withCaptives(3, 1);
        due("without rules", z.mole(1, 9), 7);
        z.proof(0, 0);
        z.proof(1, 0);
        z.proof(1, 1);
        String[] texts = {"rank 1;", "proof 0;", "proof 1;", "proof 2;", "proof 3;", "proof 9;proof 1;", "proof 0;rank 1;proof 2;bar if sick;"};
        int[] mole = {7, 7, 3, 2, 0, 3, 2};
        for (int i = 0; i < texts.length; i++) {
            read(z, texts[i]);
            due("mole by " + texts[i], z.mole(1, 9), mole[i]);
        }
        FriarLists six = withCaptives(1, 1);
        for (int p = 0; p < 6; p++) six.proof(0, p);
        read(six, "proof 6;");
        due("six are wanted of six", six.mole(1, 9), 1);
        read(six, "proof 7;");
        due("seven are wanted of six", six.mole(1, 9), 0);
    }

    // ---- 6

    private static void rates() {
        says("at a PORT so much of COIN a (0 to 2) becomes v (1 to 3000) thousandths of it of COIN b (1000 at first, each way for itself)");
        FriarLists x = new FriarLists();
        for (int port = 0; port < 5; port++) {
            for (int a = 0; a < 3; a++) {
                for (int b = 0; b < 3; b++) due("rate(" + port + ", " + a + ", " + b + ")", x.rate(port, a, b, 1 + a), a == b ? -1 : 1000);
            }
        }
        for (int a = 0; a < 3; a++) due("rate the other way", x.rate(4, a, (a + 1) % 3, 3000), 1 + a);
        due("rate", x.rate(4, 0, 1, 1), 3000);
        for (int v : new int[] {0, 3001, -1}) due("rate " + v, x.rate(4, 0, 1, v), -1);
        for (int port : new int[] {-1, 5}) due("rate at " + port, x.rate(port, 0, 1, 1), -1);
        for (int coin : new int[] {-1, 3}) {
            due("rate of " + coin, x.rate(0, coin, 1, 1), -1);
            due("rate to " + coin, x.rate(0, 1, coin, 1), -1);
        }
        due("rate stays", x.rate(4, 0, 1, 7), 1);
    }

    private static void sails() {
        says("SAILS between two PORTS: WEEKS (1 to 9; 0 at first: none), and HUNTERS (0 to 99), both ways alike");
        FriarLists x = new FriarLists();
        for (int v : new int[] {-1, 1000}) due("sails of " + v, x.sails(0, 1, v), -1);
        due("sails", x.sails(0, 1, 999), 0);
        due("sails the other way", x.sails(1, 0, 100), 999);
        due("sails of 1 week", x.road(1, 1, 1), 1);
        due("sails of no hunters", x.road(1, 99, 0), 0);
        due("sails", x.sails(0, 1, 900), 100);
        due("sails of 9 weeks", x.road(1, 1, 1), 9);
        due("sails", x.sails(0, 1, 99), 900);
        due("sails of 0 weeks", x.road(1, 1, 1), -3);
        due("brought by sails of 0 weeks", x.brought(1, 0, 0, 1), -3);
        due("sails", x.sails(0, 1, 0), 99);
        due("sails", x.sails(0, 1, 0), 0);
        for (int port = 0; port < 5; port++) due("sails to itself", x.sails(port, port, 100), -1);
        for (int port : new int[] {-1, 5, MIN, MAX}) {
            due("sails of port " + port, x.sails(port, 0, 100), -1);
            due("sails to port " + port, x.sails(0, port, 100), -1);
        }

        says("A WAY goes along SAILS from a PORT to another one, no PORT twice");
        FriarLists y = new FriarLists();
        y.sails(0, 1, 100);
        y.sails(1, 2, 100);
        y.sails(2, 3, 100);
        y.sails(3, 1, 100);
        y.sails(3, 4, 100);
        y.rate(2, 0, 1, 3000);
        y.rate(3, 1, 0, 3000);
        y.rate(4, 0, 1, 3000);
        due("the longest way changes three times", y.brought(4, 0, 1, 1), 27);
        due("no port twice: by 1, or by 1 and 3", y.brought(2, 0, 1, 1), 9);
        due("port 1 lies on no round way", y.brought(1, 0, 0, 1), 1);
        y.sails(0, 4, 100);
        due("the road from 4 straight home", y.road(4, 1, 1), 1);
    }

    private static void brought() {
        says("n (1 to 99999) of COIN a at PORT 0 go a WAY to a PORT (1 to 4)");
        FriarLists x = new FriarLists();
        due("no way", x.brought(1, 0, 0, 1), -3);
        x.sails(0, 1, 100);
        for (int n : new int[] {0, 100000, -1}) due("brought of " + n, x.brought(1, 0, 0, n), -1);
        due("brought of 1", x.brought(1, 0, 0, 1), 1);
        due("brought of 99999", x.brought(1, 0, 0, 99999), 99999);
        for (int port : new int[] {0, 5, -1}) due("brought to " + port, x.brought(port, 0, 0, 1), -1);
        for (int coin : new int[] {-1, 3}) {
            due("brought of coin " + coin, x.brought(1, coin, 0, 1), -1);
            due("brought as coin " + coin, x.brought(1, 0, coin, 1), -1);
        }
        due("another port without a way", x.brought(2, 0, 0, 1), -3);

        says("at each PORT of which (the first and the last, too) it may be changed once: the most of COIN b there; cut");
        for (int port = 0; port < 5; port++) {
            for (int i = 0; i < 6; i++) x.rate(port, i / 2, (i / 2 + 1 + i % 2) % 3, 1);
        }
        due("cut to nothing", x.brought(1, 0, 1, 999), 0);
        due("cut to one", x.brought(1, 0, 1, 1000), 1);
        due("not changed", x.brought(1, 2, 2, 7), 7);
        x.rate(0, 0, 1, 1999);
        due("changed at the first", x.brought(1, 0, 1, 1), 1);
        x.rate(1, 0, 1, 3000);
        due("changed at the last", x.brought(1, 0, 1, 1), 3);
        x.rate(1, 1, 2, 3000);
        due("changed at both", x.brought(1, 0, 2, 1), 3);
        due("changed once at each: not by 0, 1, 2 at the last", x.brought(1, 2, 0, 1), 0);
        x.rate(0, 1, 2, 3000);
        due("changed once at the first: not 0 to 1 to 2 there", x.brought(1, 0, 2, 1), 3);
        FriarLists most = new FriarLists();
        for (int port = 0; port < 4; port++) most.sails(port, port + 1, 100);
        for (int port = 0; port < 5; port++) {
            for (int i = 0; i < 6; i++) most.rate(port, i / 2, (i / 2 + 1 + i % 2) % 3, 3000);
        }
        due("the most", most.brought(4, 0, 1, 99999), 99999 * 243);
        due("the most of the same coin", most.brought(4, 0, 0, 99999), 99999 * 243);
    }

    private static void roads() {
        says("THE ROAD for n CAPTIVES (1 to 99) from a PORT to PORT 0: on each SAIL are lost: those that are left times HUNTERS by 100, up");
        FriarLists x = new FriarLists();
        x.sails(1, 0, 101);
        for (int n : new int[] {0, 100, -1}) due("road for " + n, x.road(1, n, 0), -1);
        due("1 by 1 of 100, up", x.road(1, 1, 0), 1);
        due("99 by 1 of 100, up", x.road(1, 99, 0), 1);
        x.sails(1, 0, 199);
        due("99 by 99 of 100, up", x.road(1, 99, 0), 99);
        due("1 by 99 of 100, up", x.road(1, 1, 0), 1);
        x.sails(1, 0, 150);
        due("2 by 50 of 100", x.road(1, 2, 0), 1);
        due("3 by 50 of 100, up", x.road(1, 3, 0), 2);
        x.sails(1, 0, 100);
        due("99 by none", x.road(1, 99, 0), 0);
        x.sails(1, 0, 0);
        x.sails(1, 2, 150);
        x.sails(2, 0, 150);
        due("those that are left", x.road(1, 8, 0), 6);
        due("nobody is left", x.road(1, 1, 0), 1);
        due("two sails", x.road(1, 1, 1), 2);

        says("what = 0 how many are lost, 1 WEEKS, 2 + i the i-th PORT, from the first one on (NONE: no such)");
        FriarLists y = new FriarLists();
        for (int port = 0; port < 4; port++) y.sails(port, port + 1, 900);
        due("weeks of the longest", y.road(4, 1, 1), 36);
        for (int i = 0; i < 5; i++) due("port " + i + " of the longest", y.road(4, 1, 2 + i), 4 - i);
        for (int what : new int[] {7, 8, 100, MAX}) due("road's " + what, y.road(4, 1, what), -3);
        for (int what : new int[] {-1, MIN}) due("road's " + what, y.road(4, 1, what), -1);
        for (int i = 0; i < 2; i++) due("port " + i + " of the shortest", y.road(1, 1, 2 + i), 1 - i);
        due("no third of the shortest", y.road(1, 1, 4), -3);

        says("The WAY on which fewest are lost; of several that of fewest WEEKS; of several the first by PORTS' numbers");
        FriarLists z = new FriarLists();
        z.sails(3, 0, 101);
        z.sails(3, 1, 900);
        z.sails(1, 0, 900);
        due("fewest are lost", z.road(3, 1, 1), 18);
        z.sails(3, 1, 901);
        due("of as many lost the fewest weeks", z.road(3, 1, 1), 1);
        z.sails(3, 0, 901);
        z.sails(3, 1, 400);
        z.sails(1, 0, 501);
        due("of as many weeks straight home", z.road(3, 1, 3), 0);
        z.sails(3, 0, 0);
        z.sails(3, 2, 400);
        z.sails(2, 0, 501);
        due("of as many weeks by port 1", z.road(3, 1, 3), 1);
        z.sails(1, 0, 502);
        due("for 1 as many are lost", z.road(3, 1, 3), 1);
        due("for 99 fewer by port 2", z.road(3, 99, 3), 2);
        z.sails(2, 0, 601);
        z.sails(4, 3, 100);
        z.sails(1, 2, 100);
        z.sails(1, 0, 501);
        z.sails(2, 0, 401);
        z.sails(3, 2, 0);
        z.sails(3, 1, 400);
        due("by 1 and home, or by 1 and 2: the first", z.road(4, 1, 5), 0);
        due("as many weeks", z.road(4, 1, 1), 10);
    }

    // ---- 7

    private static void moles() {
        says("THE MOLE of a PORT with COIN C (0 to 99999)");
        FriarLists x = withCaptives(2, 5);
        for (int port : new int[] {-1, 0, 5}) due("mole of port " + port, x.mole(port, 9), -1);
        for (int coin : new int[] {-1, 100000}) due("mole with " + coin, x.mole(1, coin), -1);
        due("mole with 99999", x.mole(1, 99999), 3);
        due("mole with 0", x.mole(1, 0), 0);
        due("rows with 0", x.many(10), 0);
        due("mole of port 4", x.mole(4, 99999), 0);
        due("mole of nobody", new FriarLists().mole(1, 99999), 0);

        says("those whose ASKS NOW are C at most together");
        int[] coins = {10, 9, 5, 4};
        int[] bits = {3, 1, 1, 0};
        for (int i = 0; i < coins.length; i++) due("mole with " + coins[i], x.mole(1, coins[i]), bits[i]);
        FriarLists dear = withCaptives(16, 999);
        dear.premium(0, 500);
        for (int i = 0; i < 12; i++) dear.news(-1, 9);
        dear.weeks(3);
        due("mole with 1499, not heard yet", dear.mole(1, 1499), 1);
        dear.weeks(1);
        due("mole with 17687", dear.mole(1, 17687), 0);
        due("mole with 17688", dear.mole(1, 17688), 1);
        due("mole with 88439", dear.mole(1, 88439), 15);
        due("mole with 88440", dear.mole(1, 88440), 31);
        due("mole with 99999", dear.mole(1, 99999), 31);

        says("of CAPTIVES who are HELD by MASTERS there, aren't BARRED NOW, and have PROOFS enough");
        FriarLists y = withCaptives(5, 5);
        one(y, 1, 5);
        y.master(1, 2);
        y.lose(0, 5);
        y.openBox(0, 7, 5);
        y.buy(1, -1);
        y.turned(2, true);
        for (int c : new int[] {0, 1, 2, 3, 5}) y.proof(c, 0);
        read(y, "bar if turned;proof 1;");
        due("mole of port 1", y.mole(1, 99), 8);
        due("mole of port 2", y.mole(2, 99), 32);
        y.proof(4, 5);
        due("mole with one more who has proofs", y.mole(1, 99), 24);
        y.turned(2, false);
        due("mole with one more who isn't barred", y.mole(1, 99), 28);
        y.master(1, 1);
        due("mole with one more master", y.mole(1, 99), 60);
        y.master(0, 4);
        due("mole without the others", y.mole(1, 99), 32);

        says("12 at most, of least numbers");
        FriarLists z = withCaptives(16, 5);
        due("mole of sixteen", z.mole(1, 99999), 4095);
        due("mole with exactly twelve", z.mole(1, 60), 4095);
        due("rows of twelve", z.many(10), 12);
        due("mole with 1 less than twelve", z.mole(1, 59), 2047);
        z.lose(0, 6);
        due("mole of fifteen", z.mole(1, 99999), 8190);
        z.lose(12, 6);
        due("mole of fourteen", z.mole(1, 99999), 12286);
        FriarLists thirteen = withCaptives(12, 5);
        one(thirteen, 0, 1);
        read(thirteen, "rank 0 if paid=1;");
        due("the thirteenth is not looked at", thirteen.mole(1, 5), 1);
        thirteen.lose(11, 6);
        due("the thirteenth becomes the twelfth", thirteen.mole(1, 5), 4096);
        FriarLists apart = new FriarLists();
        apart.master(1, 2);
        for (int c = 0; c < 16; c++) one(apart, c % 4 == 0 ? 1 : 0, 5);
        due("those elsewhere are not of the twelve", apart.mole(1, 99), 0xeeee);

        says("with the most of RANK 0; of several the most of RANK 1, and so on");
        FriarLists w = new FriarLists();
        for (int c = 0; c < 10; c++) one(w, 0, 20 - c);
        read(w, "rank 0 if paid=20;rank 1 if paid=19;rank 2 if paid=18;rank 3 if paid=17;rank 4 if paid=16;rank 5 if paid=15;rank 6 if paid=14;rank 7 if paid=13;rank 8 if paid=12;");
        int sum = 0;
        for (int c = 0; c < 10; c++) {
            if (c < 9) due("mole with the first " + c + " and 11", w.mole(1, sum + 11), (1 << c) - 1 | 512);
            sum += 20 - c;
            due("mole with the first " + (c + 1), w.mole(1, sum), (2 << c) - 1);
        }
        FriarLists two = new FriarLists();
        for (int paid : new int[] {10, 5, 5, 6}) one(two, 0, paid);
        read(two, "rank 0 if paid=10;rank 1 if paid=5;rank 2;");
        int[] coin = {4, 5, 9, 10, 14, 15, 16, 19, 20, 25, 26};
        int[] most = {0, 2, 2, 1, 1, 3, 3, 3, 7, 7, 15};
        for (int i = 0; i < coin.length; i++) due("mole with " + coin[i], two.mole(1, coin[i]), most[i]);

        says("of several of the least sum of ASKS");
        FriarLists least = new FriarLists();
        for (int paid : new int[] {7, 5, 6}) one(least, 0, paid);
        int[] with = {4, 5, 7, 10, 11, 12, 17, 18};
        int[] those = {0, 2, 2, 2, 6, 6, 6, 7};
        for (int i = 0; i < with.length; i++) due("mole with " + with[i], least.mole(1, with[i]), those[i]);

        says("of several the least bits");
        FriarLists same = new FriarLists();
        for (int paid : new int[] {6, 5, 5, 5, 4}) one(same, 0, paid);
        int[] c = {4, 5, 9, 13, 14, 15, 19, 24, 25};
        int[] b = {16, 16, 18, 18, 22, 22, 30, 30, 31};
        for (int i = 0; i < c.length; i++) due("mole with " + c[i], same.mole(1, c[i]), b[i]);

        says("ROWS: for each of these, by numbers: (CAPTIVE, ASK)");
        due("rows at first", new FriarLists().many(10), 0);
        same.mole(1, 14);
        int[] rows = {1, 5, 2, 5, 4, 4};
        due("rows", same.many(10), 3);
        for (int i = 0; i < 6; i++) due("row(" + i / 2 + ", " + i % 2 + ")", same.row(i / 2, i % 2), rows[i]);
        due("refused", same.mole(0, 14), -1);
        due("rows stay", same.many(10), 3);
        same.mole(1, 0);
        due("no rows any more", same.row(0, 0), -9);

        says("-9: there is none such, another what");
        same.mole(1, 25);
        for (int i : new int[] {-1, 5, MIN, MAX}) {
            due("row(" + i + ", 0)", same.row(i, 0), -9);
            due("alterRow(" + i + ", 0, 1)", same.alterRow(i, 0, 1), -9);
        }
        for (int what : new int[] {-1, 2, MIN, MAX}) {
            due("row(0, " + what + ")", same.row(0, what), -9);
            due("alterRow(0, " + what + ", 1)", same.alterRow(0, what, 1), -9);
        }
        due("alterRow(4, 1, MIN)", same.alterRow(4, 1, MIN), 4);
        due("alterRow(4, 1, MAX)", same.alterRow(4, 1, MAX), MIN);
        due("alterRow(4, 0, -9)", same.alterRow(4, 0, -9), 4);
        due("row(4, 1)", same.row(4, 1), MAX);
        due("row(4, 0)", same.row(4, 0), -9);
        due("row(3, 1)", same.row(3, 1), 5);
    }

    /** In port 1 captives 0 to 2 are held, for 5, 6 and 7, and stand in the rows; 3 is inland, 4 in port 2. */
    private static FriarLists withRows() {
        FriarLists x = new FriarLists();
        for (int c = 0; c < 5; c++) one(x, c == 4 ? 1 : 0, 5 + c);
        x.master(1, 2);
        x.lose(3, 5);
        x.mole(1, 18);
        return x;
    }

    private static FriarLists withRow(int i, int captive, int ask) {
        FriarLists x = withRows();
        x.alterRow(i, 0, captive);
        x.alterRow(i, 1, ask);
        return x;
    }

    private static void readers() {
        says("THE READER takes ROWS: the first that isn't right; else -1 (and 1 more)");
        FriarLists x = withRows();
        due("all are right", x.judge(1, 18), 0);
        due("all are right", x.judge(1, 99999), 0);
        due("a new object's", new FriarLists().judge(1, 0), 0);
        x.mole(2, 8);
        due("no rows", x.judge(4, 0), 0);
        for (int port : new int[] {-1, 0, 5}) due("judge at " + port, x.judge(port, 0), -1);
        for (int coin : new int[] {-1, 100000}) due("judge with " + coin, x.judge(1, coin), -1);

        says("no such CAPTIVE");
        for (int i = 0; i < 3; i++) {
            for (int c : new int[] {-1, 5, 15, 16, MIN, MAX}) {
                due("captive " + c + " in row " + i, withRow(i, c, 5 + i).judge(1, 18), i + 1);
                due("captive " + c + " for nothing in row " + i, withRow(i, c, 0).judge(1, 18), i + 1);
            }
        }

        says("not so that they could be bought there as told");
        due("in another port", withRows().judge(2, 18), 1);
        due("inland", withRow(2, 3, 8).judge(1, 99), 3);
        due("of a master elsewhere", withRow(2, 4, 9).judge(1, 99), 3);
        for (int c = 0; c < 3; c++) {
            for (int to = 5; to < 8; to++) {
                FriarLists lost = withRows();
                lost.lose(c, to);
                due("lost " + c + " since", lost.judge(1, 18), c + 1);
            }
            FriarLists bought = withRows();
            bought.openBox(0, 7, 9);
            bought.buy(c, -1);
            due("bought " + c + " since", bought.judge(1, 18), c + 1);
            FriarLists barred = withRows();
            read(barred, "bar if paid=" + (5 + c) + ";");
            due("barred " + c + " since", barred.judge(1, 18), c + 1);
            FriarLists proofs = withRows();
            read(proofs, "proof 1;");
            for (int other = 0; other < 3; other++) proofs.proof(other, other == c ? -1 : 0);
            due("too few proofs of " + c, proofs.judge(1, 18), c + 1);
            proofs.proof(c, 0);
            due("proofs enough of " + c, proofs.judge(1, 18), 0);
        }

        says("their number isn't above that of the ROW ahead");
        due("the same as ahead", withRow(1, 0, 5).judge(1, 18), 2);
        due("the last one the same as ahead", withRow(2, 1, 6).judge(1, 18), 3);
        due("below the one ahead", withRow(2, 0, 5).judge(1, 18), 3);
        FriarLists turned = withRow(0, 2, 7);
        due("the next is below", turned.judge(1, 18), 2);
        FriarLists skips = withRows();
        skips.mole(1, 11);
        due("two rows", skips.judge(1, 18), 0);
        skips.alterRow(1, 0, 2);
        skips.alterRow(1, 1, 7);
        due("above it by 2", skips.judge(1, 12), 0);

        says("ASK is another");
        for (int i = 0; i < 3; i++) {
            for (int by : new int[] {-1, 1, -5 - i, MIN, MAX}) due("ask of row " + i + ", by " + by, withRow(i, i, 5 + i + by).judge(1, 99999), i + 1);
        }
        FriarLists heard = withRows();
        heard.news(2, 9);
        due("told, not heard", heard.judge(1, 99), 0);
        heard.weeks(4);
        due("heard", heard.judge(1, 99), 3);
        heard.alterRow(2, 1, 13);
        due("the ask as heard", heard.judge(1, 24), 0);
        due("the ask as heard, above C", heard.judge(1, 23), 3);

        says("the ASKS with those ahead are above C");
        int[] coins = {0, 4, 5, 10, 11, 17, 18};
        int[] judged = {1, 1, 2, 2, 3, 3, 0};
        for (int i = 0; i < coins.length; i++) due("judge with " + coins[i], withRows().judge(1, coins[i]), judged[i]);
    }

    private static void buying() {
        says("is BOUGHT for ASK NOW from THE CHEST (-1) or a LEGACY that MAY (both must have it)");
        FriarLists x = withCaptives(2, 5);
        due("buy from an empty chest", x.buy(0, -1), -4);
        x.openBox(0, 7, 4);
        due("buy, 1 is lacking", x.buy(0, -1), -4);
        x.openBox(0, 7, 1);
        due("buy with exactly so much", x.buy(0, -1), 5);
        due("the chest", x.many(13), 0);
        x.legacy(4);
        x.legacy(5);
        due("buy from a legacy, 1 is lacking", x.buy(1, 0), -4);
        due("buy from a legacy with exactly so much", x.buy(1, 1), 5);
        due("what is left", x.legacyOf(1, 1), 0);
        due("what it was", x.legacyOf(1, 0), 5);
        due("what is left of the other", x.legacyOf(0, 1), 4);
        FriarLists rich = withCaptives(1, 5);
        rich.openBox(0, 7, 99);
        rich.legacy(4);
        due("a rich chest, a poor legacy", rich.buy(0, 0), -4);
        FriarLists poor = withCaptives(1, 5);
        poor.legacy(99);
        due("a poor chest, a rich legacy", poor.buy(0, -1), -4);
        due("a poor chest, a rich legacy", poor.buy(0, 0), 5);

        says("BAD: there is none such");
        for (int from : new int[] {-2, 1, MIN, MAX}) due("buy from " + from, rich.buy(0, from), -1);
        for (int c : new int[] {-1, 1, MIN, MAX}) due("buy captive " + c, rich.buy(c, -1), -1);
        due("buy one who is bought, from none", poor.buy(0, 1), -1);

        says("STATE: not HELD");
        due("buy one who is bought", poor.buy(0, 0), -4);
        FriarLists sea = withSailors(1, 1);
        sea.legacy(99);
        for (int week = 0; week < 4; week++) {
            due("buy one of state " + sea.of(0, 6), sea.buy(0, 0), -4);
            sea.weeks(1);
        }
        due("all states on the way home", sea.of(0, 6), 4);
        for (int to = 5; to < 8; to++) {
            FriarLists lost = withCaptives(1, 5);
            lost.legacy(99);
            lost.lose(0, to);
            due("buy one of state " + to, lost.buy(0, 0), -4);
        }

        says("STATE: BARRED, too few PROOFS, it MAY not");
        FriarLists y = withCaptives(2, 5);
        y.openBox(0, 7, 99);
        y.legacy(99);
        y.legacy(99);
        read(y, "bar if turned;proof 2;left 0 buys sick;");
        due("without proofs", y.buy(0, -1), -4);
        y.proof(0, 3);
        y.proof(0, 3);
        y.proof(0, -1);
        due("with one proof", y.buy(0, -1), -4);
        y.proof(0, 4);
        y.turned(0, true);
        due("barred", y.buy(0, -1), -4);
        y.turned(0, false);
        due("it may not", y.buy(0, 0), -4);
        y.sick(0, true);
        due("it may", y.buy(0, 0), 5);
        y.proof(1, 0);
        y.proof(1, 1);
        due("a legacy of which nothing is told", y.buy(1, 1), 5);

        says("10 for how much they were BOUGHT (0: they weren't), 11 the LEGACY that did (NONE: THE CHEST, or not)");
        FriarLists z = withCaptives(3, 5);
        z.openBox(0, 7, 99);
        z.legacy(99);
        z.news(1, 9);
        z.weeks(4);
        for (int c = 0; c < 3; c++) {
            due("of(" + c + ", 10) at first", z.of(c, 10), 0);
            due("of(" + c + ", 11) at first", z.of(c, 11), -3);
        }
        due("buy", z.buy(0, -1), 5);
        due("buy", z.buy(1, 0), 9);
        z.news(-1, 9);
        z.weeks(4);
        due("of(0, 10)", z.of(0, 10), 5);
        due("of(1, 10)", z.of(1, 10), 9);
        due("of(2, 10)", z.of(2, 10), 0);
        due("of(0, 11)", z.of(0, 11), -3);
        due("of(1, 11)", z.of(1, 11), 0);
        due("of(2, 11)", z.of(2, 11), -3);
    }

    private static void amiss() {
        says("AMISS is what was SPENT from LEGACIES on CAPTIVES whom they MAY not buy by THE RULES NOW");
        FriarLists x = withCaptives(4, 5);
        x.captive(1, 0, 20, 0, 7);
        x.openBox(0, 7, 99);
        x.legacy(99);
        x.legacy(99);
        due("amiss at first", x.legacyOf(0, 2), 0);
        x.buy(0, 0);
        x.buy(1, 0);
        x.buy(2, -1);
        x.buy(4, 1);
        due("amiss without rules", x.legacyOf(0, 2), 0);
        read(x, "left 0 buys turned;");
        due("amiss of two", x.legacyOf(0, 2), 10);
        due("amiss of the other", x.legacyOf(1, 2), 0);
        x.turned(0, true);
        due("amiss of one", x.legacyOf(0, 2), 5);
        x.news(-1, 9);
        x.weeks(4);
        due("amiss stays as it was spent", x.legacyOf(0, 2), 5);
        read(x, "left 0 buys age=20;left 1 buys age<21;");
        due("amiss by later rules", x.legacyOf(0, 2), 0);
        goTo(x, 51);
        due("amiss in week 51", x.legacyOf(1, 2), 0);
        x.weeks(1);
        due("amiss in week 52", x.legacyOf(1, 2), 7);
        due("amiss in week 52", x.legacyOf(0, 2), 10);
        x.sick(0, true);
        x.weeks(6);
        due("amiss of one who is dead, too", x.legacyOf(0, 2), 10);
        read(x, "");
        due("amiss by an empty text", x.legacyOf(0, 2), 0);

        says("PAID TWICE is a CAPTIVE who was BOUGHT (ever), and of whom another order tells that it paid for them, too");
        FriarLists y = withCaptives(3, 5);
        y.openBox(0, 7, 10);
        for (int c : new int[] {-1, 3}) due("twice of " + c, y.twice(c), -1);
        due("twice of one who is held", y.twice(0), 0);
        due("of(0, 13)", y.of(0, 13), 0);
        y.buy(0, -1);
        due("of(0, 13), told ahead of buying", y.of(0, 13), 1);
        y.buy(1, -1);
        due("of(1, 13), not told", y.of(1, 13), 0);
        y.sick(1, true);
        y.weeks(6);
        due("twice of one who was bought and is dead", y.twice(1), 1);
        due("of(1, 13)", y.of(1, 13), 1);
        y.lose(2, 6);
        due("twice of one who ran", y.twice(2), 0);
        due("of(2, 13)", y.of(2, 13), 0);
        due("twice of one again", y.twice(0), 1);
    }

    private static void waits() {
        says("TO WAIT, with an ASK a (1 to 9999), DROP, KEEP (0 to 999 each), PATIENCE (0 to 6) and LOSS (0 to 9999)");
        FriarLists x = new FriarLists();
        for (int what = 0; what < 2; what++) {
            for (int ask : new int[] {0, 10000, -1, MIN, MAX}) due("ask " + ask, x.waits(ask, 1, 1, 1, 1, what), -1);
            for (int drop : new int[] {-1, 1000, MIN, MAX}) due("drop " + drop, x.waits(1, drop, 1, 1, 1, what), -1);
            for (int keep : new int[] {-1, 1000, MIN, MAX}) due("keep " + keep, x.waits(1, 1, keep, 1, 1, what), -1);
            for (int patience : new int[] {-1, 7, MIN, MAX}) due("patience " + patience, x.waits(1, 1, 1, patience, 1, what), -1);
            for (int loss : new int[] {-1, 10000, MIN, MAX}) due("loss " + loss, x.waits(1, 1, 1, 1, loss, what), -1);
        }
        for (int what : new int[] {-1, 2, MIN, MAX}) due("what " + what, x.waits(1, 1, 1, 1, 1, what), -1);
        paysIn(x, new int[] {1, 0, 0, 0, 9999}, 1, 0);
        paysIn(x, new int[] {9999, 999, 999, 6, 9999}, 9999, 0);
        paysIn(x, new int[] {9999, 999, 998, 6, 9999}, 9993, 6);
        paysIn(x, new int[] {9999, 999, 0, 6, 9999}, 4005, 6);
        paysIn(x, new int[] {9999, 0, 999, 6, 0}, 6993, 7);

        says("either pay a less DROP for each WEEK that went by (1 at least)");
        paysIn(x, new int[] {10, 999, 0, 6, 9999}, 1, 1);
        paysIn(x, new int[] {1, 999, 0, 6, 9999}, 1, 0);
        paysIn(x, new int[] {10, 9, 0, 6, 9999}, 1, 1);
        paysIn(x, new int[] {10, 8, 0, 6, 9999}, 1, 2);
        paysIn(x, new int[] {10, 10, 0, 0, 9999}, 10, 0);
        paysIn(x, new int[] {10, 3, 0, 2, 9999}, 4, 2);
        paysIn(x, new int[] {10, 3, 0, 3, 9999}, 1, 3);
        paysIn(x, new int[] {10, 3, 0, 4, 9999}, 1, 3);

        says("or wait, which costs KEEP; in which WEEK one pays then (the first of several)");
        paysIn(x, new int[] {10, 3, 2, 6, 9999}, 7, 3);
        paysIn(x, new int[] {10, 3, 2, 2, 9999}, 8, 2);
        paysIn(x, new int[] {10, 3, 3, 6, 9999}, 10, 0);
        paysIn(x, new int[] {10, 3, 4, 6, 9999}, 10, 0);
        paysIn(x, new int[] {10, 9, 8, 6, 9999}, 9, 1);
        paysIn(x, new int[] {10, 0, 0, 6, 9999}, 10, 0);

        says("who waits in WEEK PATIENCE has LOSS besides; PATIENCE and 1: not at all, if that is less than any");
        paysIn(x, new int[] {10, 0, 2, 0, 7}, 9, 1);
        paysIn(x, new int[] {10, 0, 2, 0, 8}, 10, 0);
        paysIn(x, new int[] {10, 0, 2, 0, 9}, 10, 0);
        paysIn(x, new int[] {1, 0, 0, 0, 0}, 0, 1);
        paysIn(x, new int[] {1, 0, 1, 0, 0}, 1, 0);
        paysIn(x, new int[] {10, 1, 0, 6, 3}, 3, 7);
        paysIn(x, new int[] {10, 1, 0, 6, 4}, 4, 6);
        paysIn(x, new int[] {9999, 0, 0, 6, 9998}, 9998, 7);
        paysIn(x, new int[] {9999, 0, 1, 6, 9991}, 9998, 7);
        paysIn(x, new int[] {9999, 0, 1, 6, 9992}, 9999, 0);
    }

    private static void paysIn(FriarLists x, int[] told, int cost, int week) {
        String call = "waits of ask " + told[0] + ", drop " + told[1] + ", keep " + told[2] + ", patience " + told[3] + ", loss " + told[4];
        due(call + ": cost", x.waits(told[0], told[1], told[2], told[3], told[4], 0), cost);
        due(call + ": week", x.waits(told[0], told[1], told[2], told[3], told[4], 1), week);
    }

    // ---- 8

    private static void ships() {
        says("SHIPS, 4 at most, numbered as they come: a PASS for n CAPTIVES (1 to 16), in a PORT (1 to 4)");
        FriarLists x = new FriarLists();
        for (int port : new int[] {-1, 0, 5, MIN, MAX}) due("ship in " + port, x.ship(port, 1), -1);
        for (int pass : new int[] {-1, 0, 17, MIN, MAX}) due("ship of pass " + pass, x.ship(1, pass), -1);
        for (int s = 0; s < 4; s++) due("ship", x.ship(1 + s, s == 0 ? 16 : 1), s);
        due("ship 5th", x.ship(1, 1), -2);
        due("ship 5th of pass 17", x.ship(1, 17), -1);
        due("many(8)", x.many(8), 4);

        says("A CAPTIVE goes aboard: how many are. STATE: its PASS is for no more");
        FriarLists y = withBought(16);
        y.ship(1, 15);
        y.ship(1, 1);
        for (int c = 0; c < 15; c++) due("aboard", y.aboard(c, 0), c + 1);
        due("aboard of a full ship", y.aboard(15, 0), -4);
        due("aboard of another ship", y.aboard(15, 1), 1);
        FriarLists all = withBought(16);
        all.ship(1, 16);
        for (int c = 15; c >= 0; c--) due("aboard", all.aboard(c, 0), 16 - c);

        says("BAD: there is none such (either)");
        for (int c : new int[] {-1, 16, MIN, MAX}) due("aboard of captive " + c, y.aboard(c, 0), -1);
        for (int s : new int[] {-1, 2, MIN, MAX}) due("aboard of ship " + s, y.aboard(0, s), -1);

        says("STATE: not BOUGHT");
        FriarLists z = withBought(1);
        for (int c = 1; c < 5; c++) one(z, 0, 5);
        z.ship(1, 9);
        for (int c = 1; c < 5; c++) {
            if (c > 1) z.lose(c, 3 + c);
            due("aboard of one of state " + z.of(c, 6), z.aboard(c, 0), -4);
        }
        FriarLists sea = withSailors(1, 1);
        sea.ship(1, 9);
        for (int week = 0; week < 4; week++) {
            due("aboard of one of state " + sea.of(0, 6), sea.aboard(0, 1), -4);
            sea.weeks(1);
        }

        says("STATE: on a SHIP");
        z.ship(1, 9);
        due("aboard", z.aboard(0, 0), 1);
        due("aboard again", z.aboard(0, 0), -4);
        due("aboard of another", z.aboard(0, 1), -4);
        due("of(0, 12)", z.of(0, 12), 0);
        due("of(1, 12)", z.of(1, 12), -3);

        says("STATE: of a MASTER elsewhere (BOUGHT CAPTIVES go aboard where their MASTER is)");
        FriarLists w = withBought(2);
        w.ship(4, 9);
        due("aboard in port 4", w.aboard(0, 0), -4);
        w.master(1, 4);
        due("aboard, another master went there", w.aboard(0, 0), -4);
        w.master(0, 4);
        due("aboard, the master went there", w.aboard(0, 0), 1);
        w.master(0, 3);
        due("aboard, the master left", w.aboard(1, 0), -4);

        says("STATE: it has SAILED");
        FriarLists gone = withBought(2);
        gone.ship(1, 9);
        gone.aboard(0, 0);
        gone.sails(1, 0, 100);
        gone.sail(0);
        due("aboard of one at sea", gone.aboard(1, 0), -4);
        gone.weeks(9);
        due("aboard of one that came", gone.aboard(1, 0), -4);
    }

    private static void voyagesHome() {
        says("It SAILS by THE ROAD for those aboard");
        int[] aboard = {1, 10, 11, 16};
        for (int n : aboard) {
            FriarLists x = withBought(n);
            x.sails(1, 0, 110);
            x.sails(1, 2, 201);
            x.sails(2, 0, 300);
            x.ship(1, 16);
            for (int c = 0; c < n; c++) x.aboard(c, 0);
            due("weeks for those aboard, " + n, x.sail(0), n < 11 ? 1 : 5);
        }
        FriarLists lost = withBought(16);
        lost.sails(1, 0, 199);
        lost.ship(1, 16);
        for (int c = 0; c < 16; c++) lost.aboard(c, 0);
        due("road loses all", lost.road(1, 16, 0), 16);
        lost.sail(0);
        lost.weeks(1);
        due("nobody is lost in fact", lost.many(23), 16);

        says("STATE: it did already, nobody is aboard; NONE: there is no ROAD. BAD: there is none such");
        FriarLists x = withBought(1);
        x.ship(1, 1);
        for (int s : new int[] {-1, 1, MIN, MAX}) due("sail " + s, x.sail(s), -1);
        due("sail with nobody, without a road", x.sail(0), -4);
        x.sails(1, 0, 100);
        due("sail with nobody", x.sail(0), -4);
        x.aboard(0, 0);
        x.sails(1, 0, 99);
        due("sail without a road", x.sail(0), -3);
        due("still bought", x.of(0, 6), 1);
        x.sails(1, 0, 100);
        due("sail", x.sail(0), 1);
        due("sail twice", x.sail(0), -4);
        x.sails(1, 0, 0);
        due("sail twice, without a road", x.sail(0), -4);
        x.weeks(9);
        due("sail behind coming", x.sail(0), -4);

        says("it comes to the mole that many WEEKS later; all who are AT SEA on it are OFF then, for 2 WEEKS; then HOME");
        for (int weeks : new int[] {1, 2, 9}) {
            FriarLists y = withSailors(2, weeks);
            for (int week = 1; week < weeks; week++) {
                y.weeks(1);
                due("at sea in week " + week, y.many(22), 2);
            }
            for (int off = 0; off < 2; off++) {
                y.weeks(1);
                due("off in week " + (weeks + off), y.many(23), 2);
            }
            y.weeks(1);
            due("home in week " + (weeks + 2), y.many(24), 2);
        }
        FriarLists longest = withBought(1);
        for (int port = 0; port < 4; port++) longest.sails(port, port + 1, 900);
        longest.master(0, 4);
        longest.ship(4, 1);
        longest.aboard(0, 0);
        due("the longest road", longest.sail(0), 36);
        longest.weeks(35);
        due("at sea in week 35", longest.of(0, 6), 2);
        longest.weeks(1);
        due("off in week 36", longest.of(0, 6), 3);

        says("the WEEK on which it comes (it may be above 1999)");
        for (int from : new int[] {1990, 1991, 1999}) {
            FriarLists late = withBought(1);
            late.sails(1, 0, 900);
            late.ship(1, 1);
            late.aboard(0, 0);
            goTo(late, from);
            due("comes", late.sail(0), from + 9);
            goTo(late, 1999);
            due("state in week 1999", late.of(0, 6), from == 1990 ? 3 : 2);
        }
    }

    /** How many weeks, of the 20 that come, a captive is off. */
    private static int weeksOff(FriarLists x, int captive) {
        int off = 0;
        for (int i = 0; i < 20; i++) {
            x.weeks(1);
            if (x.of(captive, 6) == 3) off++;
        }
        return off;
    }

    private static void quarantines() {
        says("or for 6, if somebody AT SEA on it was SICK at some time since it SAILED (also one who is DEAD, or healed, now)");
        FriarLists x = withSailors(2, 3);
        due("nobody was sick", weeksOff(x, 0), 2);
        x = withSailors(2, 3);
        x.sick(1, true);
        due("sick since it sailed, till off", weeksOff(x, 0), 6);
        x = withSailors(2, 3);
        x.sick(1, true);
        x.sick(1, false);
        due("healed in the week of sailing", weeksOff(x, 0), 6);
        x = withSailors(2, 3);
        x.weeks(2);
        x.sick(1, true);
        x.sick(1, false);
        due("sick in the last week at sea, and healed", weeksOff(x, 0), 6);
        due("who was sick is home", x.of(1, 6), 4);
        x = withSailors(2, 9);
        x.sick(1, true);
        x.weeks(6);
        due("who was sick is dead", x.of(1, 6), 7);
        due("one died at sea", weeksOff(x, 0), 6);
        x = withSailors(1, 3);
        x.sick(0, true);
        x.weeks(3);
        x.sick(0, false);
        due("alone, healed when off", 1 + weeksOff(x, 0), 6);
        x = withSailors(2, 3);
        x.weeks(3);
        x.sick(1, true);
        due("sick as off only", 1 + weeksOff(x, 0), 2);
        due("who is sick is home", x.of(1, 6), 4);

        says("since it SAILED: as it sails, too, and not ahead of it");
        for (int healed = 0; healed < 3; healed++) {
            FriarLists y = withBought(2);
            y.sails(1, 0, 100);
            y.ship(1, 2);
            y.aboard(0, 0);
            y.aboard(1, 0);
            y.sick(1, true);
            y.weeks(2);
            if (healed == 0) y.sick(1, false);
            y.sail(0);
            if (healed == 1) y.sick(1, false);
            due(new String[] {"healed as it sails", "healed behind sailing", "sick all the time"}[healed], weeksOff(y, 0), healed == 0 ? 2 : 6);
        }

        says("somebody AT SEA on it (not on another one, nor elsewhere)");
        FriarLists z = withBought(4);
        z.sails(1, 0, 200);
        for (int s = 0; s < 2; s++) {
            z.ship(1, 1);
            z.aboard(s, s);
        }
        z.sail(0);
        z.sail(1);
        z.sick(1, true);
        z.sick(2, true);
        z.weeks(2);
        z.sick(1, false);
        z.weeks(1);
        due("off still", z.many(23), 2);
        z.weeks(1);
        due("nobody was sick on ship 0", z.of(0, 6), 4);
        due("somebody was on ship 1", z.of(1, 6), 3);
        z.weeks(3);
        due("off in week 7", z.of(1, 6), 3);
        z.weeks(1);
        due("home in week 8", z.of(1, 6), 4);
    }

    private static void asAWeekComes() {
        says("As a WEEK comes: first who is SICK so long is DEAD; then SHIPS come");
        FriarLists x = withSailors(3, 6);
        x.sick(0, true);
        x.weeks(1);
        x.sick(1, true);
        x.weeks(4);
        due("at sea in week 5", x.many(22), 3);
        x.weeks(1);
        due("dead in the week of coming, not off", x.of(0, 6), 7);
        due("off", x.of(1, 6), 3);
        x.weeks(1);
        due("dead a week later", x.of(1, 6), 7);
        x.weeks(4);
        due("off for 6", x.of(2, 6), 3);
        x.weeks(1);
        due("home", x.of(2, 6), 4);

        says("first who is SICK so long is DEAD; then those who are OFF and whose WEEKS are over are HOME");
        FriarLists y = withSailors(3, 2);
        y.sick(2, true);
        y.sick(2, false);
        y.weeks(2);
        y.sick(0, true);
        y.weeks(1);
        y.sick(1, true);
        y.weeks(4);
        due("off in week 7", y.many(23), 3);
        y.weeks(1);
        due("dead, not home", y.of(0, 6), 7);
        due("home, sick for 5", y.of(1, 6), 4);
        due("home", y.of(2, 6), 4);
        y.weeks(1);
        due("home, sick for 6", y.of(1, 6), 4);

        says("n WEEKS go by: one by one");
        for (int n : new int[] {1, 5, 6, 7, 8, 11, 12, 200}) {
            FriarLists one = withSailors(3, 6), many = withSailors(3, 6);
            one.sick(0, true);
            many.sick(0, true);
            many.weeks(n);
            for (int i = 0; i < n; i++) one.weeks(1);
            for (int c = 0; c < 3; c++) {
                due("state of " + c + " after " + n, many.of(c, 6), one.of(c, 6));
                due("state of " + c + " after " + n, many.of(c, 6), c == 0 ? n < 6 ? 2 : 7 : n < 6 ? 2 : n < 12 ? 3 : 4);
            }
        }
    }

    private static void voyages() {
        says("VOYAGES, 8 at most: each costs so much (1 to 999) and brings so many (1 to 9) of a RANK (0 to 3)");
        FriarLists x = new FriarLists();
        for (int cost : new int[] {-1, 0, 1000, MIN, MAX}) due("voyage for " + cost, x.voyage(cost, 1, 0), -1);
        for (int brings : new int[] {-1, 0, 10, MIN, MAX}) due("voyage of " + brings, x.voyage(1, brings, 0), -1);
        for (int rank : new int[] {-1, 4, MIN, MAX}) due("voyage of rank " + rank, x.voyage(1, 1, rank), -1);
        due("many(9)", x.many(9), 0);
        for (int v = 0; v < 8; v++) due("voyage", x.voyage(999, 9, v == 0 ? 3 : 0), v + 1);
        due("voyage 9th", x.voyage(1, 1, 0), -2);
        due("voyage 9th for 0", x.voyage(0, 1, 0), -1);
        due("many(9)", x.many(9), 8);

        says("THE YEARS with COIN C: what = -1 their bits, -2 what they cost, else how many of RANK what (0 to 3)");
        for (int what = -2; what < 4; what++) {
            for (int coin : new int[] {-1, 100000, MIN, MAX}) due("years with " + coin, x.years(coin, what), -1);
            due("years of none", new FriarLists().years(99999, what), 0);
            due("years with 0", x.years(0, what), 0);
        }
        for (int what : new int[] {-3, 4, MIN, MAX}) due("years, what " + what, x.years(0, what), -1);
        due("all", x.years(99999, -1), 255);
        due("all cost", x.years(99999, -2), 7992);
        due("of rank 0", x.years(99999, 0), 63);
        due("of rank 1", x.years(99999, 1), 0);
        due("of rank 3", x.years(99999, 3), 9);
        FriarLists most = new FriarLists();
        for (int v = 0; v < 8; v++) most.voyage(1, 9, v % 2 * 3);
        FriarLists same = new FriarLists();
        for (int v = 0; v < 8; v++) same.voyage(1, 9, 1);
        due("72 of rank 1", same.years(8, 1), 72);
        due("none of rank 0", same.years(8, 0), 0);
        due("none of rank 2", same.years(8, 2), 0);
        due("36 of rank 0", most.years(8, 0), 36);
        due("36 of rank 3", most.years(8, 3), 36);

        says("that cost C at most together");
        due("exactly all", x.years(7992, -1), 255);
        due("1 less than all", x.years(7991, -1), 254);
        due("exactly one", x.years(999, -1), 2);
        due("1 less than one", x.years(998, -1), 0);
        due("1 less than two", x.years(1997, -1), 2);
        due("exactly two", x.years(1998, -1), 6);

        says("with the most of RANK 0, then 1, 2, 3");
        FriarLists y = new FriarLists();
        y.voyage(10, 1, 0);
        y.voyage(5, 9, 1);
        y.voyage(5, 9, 2);
        y.voyage(4, 9, 3);
        y.voyage(6, 1, 1);
        int[] coins = {3, 4, 5, 6, 9, 10, 14, 15, 16, 19, 20, 21, 24, 25, 26, 29, 30};
        int[] bits = {0, 8, 2, 2, 10, 1, 9, 3, 3, 11, 7, 19, 19, 27, 23, 23, 31};
        for (int i = 0; i < coins.length; i++) due("years with " + coins[i], y.years(coins[i], -1), bits[i]);
        FriarLists little = new FriarLists();
        little.voyage(1, 1, 3);
        due("the least voyage", little.years(1, -1), 1);
        due("1 of rank 3", little.years(1, 3), 1);
        due("the least voyage, 1 less", little.years(0, 3), 0);
        FriarLists one = new FriarLists();
        one.voyage(999, 1, 0);
        for (int v = 1; v < 8; v++) one.voyage(1, 9, 1 + v % 3);
        due("one of rank 0 ahead of 63 others", one.years(999, -1), 1);
        due("63 others", one.years(998, -1), 254);

        says("of several the cheapest");
        FriarLists z = new FriarLists();
        z.voyage(7, 2, 1);
        z.voyage(6, 2, 1);
        z.voyage(3, 1, 1);
        z.voyage(2, 1, 1);
        due("with 4", z.years(4, -1), 8);
        due("with 5", z.years(5, -1), 12);
        due("with 6", z.years(6, -1), 12);
        due("with 7", z.years(7, -1), 12);
        due("with 8", z.years(8, -1), 10);
        due("it costs", z.years(8, -2), 8);
        due("it brings", z.years(8, 1), 3);

        says("of several the least bits");
        FriarLists w = new FriarLists();
        w.voyage(4, 2, 2);
        w.voyage(4, 2, 2);
        w.voyage(2, 1, 2);
        w.voyage(2, 1, 2);
        due("with 2", w.years(2, -1), 4);
        due("with 4", w.years(4, -1), 1);
        due("with 6", w.years(6, -1), 5);
        due("with 8", w.years(8, -1), 3);
        due("with 10", w.years(10, -1), 7);
        FriarLists late = new FriarLists();
        late.voyage(2, 1, 2);
        late.voyage(2, 1, 2);
        late.voyage(4, 2, 2);
        due("two of least bits, not one", late.years(4, -1), 3);
    }

    // ---- 9

    /** On shelf 0 is a paper of a kind (1 to 6), its number n (0 to 2) and its amount a told. */
    private static FriarLists withPaper(int kind, int n, int a) {
        FriarLists x = new FriarLists();
        for (int i = 0; i <= n; i++) {
            int amount = i == n ? a : 50;
            if (kind == 1) x.alms(0, amount);
            if (kind == 2) x.legacy(amount);
            if (kind == 3) x.ship(1, Math.min(16, amount));
            if (kind > 3) one(x, 0, amount);
        }
        x.openBox(0, 7, 9999);
        if (kind > 4) x.buy(n, -1);
        if (kind > 5) {
            x.sails(1, 0, 900);
            x.ship(1, 1);
            x.aboard(n, 0);
            x.sail(0);
        }
        x.shelf(0, kind < 4 ? kind - 1 : 3, n);
        return x;
    }

    private static void acted(FriarLists x, int act, int told, int want, int... bodies) {
        due("act " + act + " of " + told, x.act(0, act, told), want);
        due("bodies of act " + act, x.many(12), bodies.length);
        for (int i = 0; i < bodies.length; i++) due("body " + i + " of act " + act, x.trace(i), bodies[i]);
        due("no body behind them", x.trace(bodies.length), -3);
    }

    private static void acts() {
        says("alms: 20 counts: super.counts(x) + a (11, 12, 13 of paper)");
        FriarLists alms = withPaper(1, 1, 7);
        acted(alms, 0, 10, 18, 20, 10);
        acted(alms, 1, 10, 36, 11, 20, 10);
        acted(alms, 2, 10, 1, 12);
        acted(alms, 3, 10, 29, 13, 11, 20, 10);

        says("left: 30 binds: super.binds(x) ^ counts(1)");
        FriarLists left = withPaper(2, 1, 7);
        acted(left, 0, 10, 18, 20, 10);
        acted(left, 1, 10, 45, 30, 11, 20, 10, 20, 10);
        acted(left, 2, 10, 1, 12);
        acted(left, 3, 10, 38, 13, 30, 11, 20, 10, 20, 10);

        says("pass: 40 goes: super.goes(x + 3). 41 tells: super.tells(x) * 3");
        FriarLists pass = withPaper(3, 1, 7);
        acted(pass, 0, 10, 11, 10);
        acted(pass, 1, 10, 22, 11, 10);
        acted(pass, 2, 8, 1, 40, 12);
        acted(pass, 2, 9, 2, 40, 12);
        acted(pass, 3, 10, 45, 41, 13, 11, 10);

        says("price: 50 binds: super.binds(x) - 7");
        FriarLists price = withPaper(4, 1, 7);
        acted(price, 0, 10, 11, 10);
        acted(price, 1, 10, 15, 50, 11, 10);
        acted(price, 2, 10, 1, 12);
        acted(price, 3, 10, 8, 13, 50, 11, 10);

        says("bought: 60 counts: super.counts(x) * 5. 61 goes: 0 - super.goes(x)");
        FriarLists bought = withPaper(5, 1, 7);
        acted(bought, 0, 10, 55, 60, 10);
        acted(bought, 1, 10, 103, 50, 11, 60, 10);
        acted(bought, 2, 10, -1, 61, 12);
        acted(bought, 3, 10, 96, 13, 50, 11, 60, 10);

        says("owed: 70 binds: super.binds(x + 1) ^ 9. 71 tells: super.tells(x) + goes(a)");
        FriarLists owed = withPaper(6, 1, 7);
        acted(owed, 0, 10, 55, 60, 10);
        acted(owed, 1, 10, 120, 70, 50, 11, 60, 10);
        acted(owed, 2, 10, -1, 61, 12);
        acted(owed, 3, 10, 112, 71, 13, 70, 50, 11, 60, 10, 61, 12);
        owed.weeks(9);
        due("off", owed.of(1, 6), 3);
        acted(owed, 3, 10, 112, 71, 13, 70, 50, 11, 60, 10, 61, 12);

        says("of ALMS the amount, of a LEGACY what it has left, of a SHIP its PASS, of a CAPTIVE PAID");
        FriarLists spent = withPaper(2, 0, 99);
        one(spent, 0, 9);
        spent.buy(0, 0);
        acted(spent, 0, 0, 90, 20, 10);
        one(spent, 0, 90);
        spent.buy(1, 0);
        acted(spent, 0, 0, 0, 20, 10);
        acted(spent, 2, 5, -15, 12);
        FriarLists dear = withCaptives(1, 5);
        dear.premium(0, 500);
        dear.openBox(0, 7, 9999);
        dear.buy(0, -1);
        dear.shelf(0, 3, 0);
        acted(dear, 3, 0, -7 - 5, 13, 50, 11, 60, 10);
        FriarLists last = withPaper(1, 23, 99);
        acted(last, 0, 0, 122, 20, 10);
    }

    private static void wraps() {
        says("a number x (ints that wrap): x + n, + a");
        acted(withPaper(4, 1, 7), 0, MAX, MIN, 10);
        acted(withPaper(4, 0, 7), 0, MAX, MAX, 10);
        acted(withPaper(1, 1, 7), 0, MAX, MIN + 7, 20, 10);
        acted(withPaper(1, 0, 1), 0, MAX, MIN, 20, 10);
        acted(withPaper(1, 0, 1), 0, MIN, MIN + 1, 20, 10);

        says("counts(x) * 2");
        acted(withPaper(3, 0, 7), 1, MAX, -2, 11, 10);
        acted(withPaper(3, 0, 7), 1, MIN, 0, 11, 10);
        acted(withPaper(3, 0, 7), 1, 1 << 30, MIN, 11, 10);
        acted(withPaper(3, 0, 7), 1, (1 << 30) - 1, MAX - 1, 11, 10);

        says("x by (a - n), the rest away");
        int[] told = {7, -7, 1, -1, 0, MAX, MIN};
        int[] byTwo = {3, -3, 0, 0, 0, 1073741823, -1073741824};
        int[] byLess = {-7, 7, -1, 1, 0, -MAX, MIN};
        for (int i = 0; i < told.length; i++) {
            acted(withPaper(1, 0, 2), 2, told[i], byTwo[i], 12);
            acted(withPaper(1, 2, 1), 2, told[i], byLess[i], 12);
            acted(withPaper(4, 2, 1), 2, told[i], byLess[i], 12);
        }

        says("binds(x) - a, super.binds(x) - 7");
        acted(withPaper(3, 0, 7), 3, 1 << 30, (MAX - 6) * 3, 41, 13, 11, 10);
        acted(withPaper(1, 0, 7), 3, (1 << 30) - 7, MAX - 6, 13, 11, 20, 10);
        acted(withPaper(4, 0, 7), 1, 1 << 30, MAX - 6, 50, 11, 10);
        acted(withPaper(4, 0, 7), 3, 1 << 30, MAX - 13, 13, 50, 11, 10);

        says("super.binds(x) ^ counts(1)");
        acted(withPaper(2, 0, 1), 1, -2, -2 ^ 2, 30, 11, 20, 10, 20, 10);
        acted(withPaper(2, 0, 9999), 1, MAX, 2 * (MIN + 9998) ^ 10000, 30, 11, 20, 10, 20, 10);

        says("super.goes(x + 3), super.tells(x) * 3");
        acted(withPaper(3, 0, 1), 2, MAX, MIN + 2, 40, 12);
        acted(withPaper(3, 0, 1), 2, MAX - 3, MAX, 40, 12);
        acted(withPaper(3, 1, 7), 2, MAX, -357913941, 40, 12);
        acted(withPaper(3, 0, 16), 3, 536870916, -1073741848, 41, 13, 11, 10);

        says("super.counts(x) * 5, 0 - super.goes(x)");
        acted(withPaper(5, 0, 7), 0, 429496730, -2147483646, 60, 10);
        acted(withPaper(5, 0, 7), 0, MIN, MIN, 60, 10);
        acted(withPaper(5, 0, 1), 2, MIN, MIN, 61, 12);
        acted(withPaper(5, 2, 1), 2, MIN, MIN, 61, 12);
        acted(withPaper(5, 2, 1), 2, MAX, MAX, 61, 12);

        says("super.binds(x + 1) ^ 9, super.tells(x) + goes(a)");
        acted(withPaper(6, 0, 7), 1, MAX, -7 ^ 9, 70, 50, 11, 60, 10);
        acted(withPaper(6, 0, 7), 1, -1, -7 ^ 9, 70, 50, 11, 60, 10);
        acted(withPaper(6, 0, 4), 3, 1073741825, MAX, 71, 13, 70, 50, 11, 60, 10, 61, 12);
    }

    private static void partings() {
        says("12 goes: x by (a - n) (-15 if these are the same; that is all that act() answers then)");
        for (int kind = 1; kind < 7; kind++) {
            FriarLists x = withPaper(kind, 1, 1);
            for (int told : new int[] {0, 1, -1, MIN, MAX}) {
                due("goes of kind " + kind, x.act(0, 2, told), -15);
                if (kind == 6) due("tells of kind 6", x.act(0, 3, told), -15);
            }
            due("counts of kind " + kind, x.act(0, 0, 0), new int[] {0, 2, 2, 1, 1, 5, 5}[kind]);
            due("binds of kind " + kind, x.act(0, 1, 0), new int[] {0, 4, 4 ^ 3, 2, -5, 3, 13 ^ 9}[kind]);
            if (kind < 6) due("tells of kind " + kind, x.act(0, 3, 0), new int[] {0, 3, 6, 3, -6, 2}[kind]);
            due("goes of kind " + kind + " once more", x.act(0, 2, 0), -15);
        }

        says("an answer that is -15 without a parting");
        acted(withPaper(4, 0, 1), 2, -15, -15, 12);
        acted(withPaper(5, 0, 1), 2, 15, -15, 61, 12);
    }

    private static void traces() {
        says("THE TRACE: numbers of the bodies that ran in the latest act(), as they began");
        FriarLists x = withPaper(6, 1, 7);
        due("no act yet", x.trace(0), -3);
        due("no act yet", x.many(12), 0);
        x.act(0, 3, 10);
        for (int i : new int[] {-1, 9, 29, 30, 31, MIN, MAX}) due("trace(" + i + ")", x.trace(i), -3);
        due("trace(8)", x.trace(8), 12);
        x.act(0, 0, 10);
        due("of the latest alone", x.many(12), 2);
        due("trace(2)", x.trace(2), -3);
        acted(withPaper(6, 1, 1), 3, 0, -15, 71, 13, 70, 50, 11, 60, 10, 61, 12);
        acted(withPaper(3, 1, 1), 2, 0, -15, 40, 12);

        says("0, and no TRACE then: no such SHELF, act, nothing, a row");
        x.sheet(0, 2, 5);
        x.shelf(1, 4, 0);
        int[][] calls = {{-1, 0}, {4, 0}, {MIN, 0}, {MAX, 0}, {0, -1}, {0, 4}, {0, MIN}, {0, MAX}, {1, 0}, {1, 3}, {2, 0}, {3, 2}};
        for (int[] call : calls) {
            x.act(0, 3, 10);
            due("act(" + call[0] + ", " + call[1] + ", 10)", x.act(call[0], call[1], 10), 0);
            due("no trace then", x.many(12), 0);
            due("no trace then", x.trace(0), -3);
        }
    }

    private static void sheets() {
        says("SHEETS 0 to 3 are rows of bytes, shorts, ints, longs or booleans, or missing (at first)");
        FriarLists x = new FriarLists();
        for (int s = 0; s < 4; s++) {
            due("put to a missing sheet", x.put(s, 0, 1), -11);
            for (int sort = 0; sort < 5; sort++) due("item of a missing sheet", x.item(s, sort, 0), -11);
            due("comes of a missing sheet", x.comes(s, 0), -11);
        }
        for (int s : new int[] {-1, 4, MIN, MAX}) {
            due("sheet " + s, x.sheet(s, 0, 1), -1);
            due("put to sheet " + s, x.put(s, 0, 1), -1);
            due("item of sheet " + s, x.item(s, 0, 0), -1);
            due("comes of sheet " + s, x.comes(s, 0), -1);
        }

        says("40 at most. BAD: no such SHEET, sort, n above 40; -14");
        for (int sort = 0; sort < 5; sort++) {
            due("sheet of 0", x.sheet(0, sort, 0), 1);
            due("item of a sheet of 0", x.item(0, sort, 0), -12);
            due("put to a sheet of 0", x.put(0, 0, 1), -12);
            due("sheet of 40", x.sheet(3, sort, 40), 1);
            due("put to the last", x.put(3, 39, 1), 1);
            due("the last", x.item(3, sort, 39), 1);
            due("put behind the last", x.put(3, 40, 1), -12);
            due("behind the last", x.item(3, sort, 40), -12);
            for (int n : new int[] {41, MAX}) due("sheet of " + n, x.sheet(3, sort, n), -1);
            for (int n : new int[] {-1, -41, MIN}) due("sheet of " + n, x.sheet(3, sort, n), -14);
            due("the last, behind what was refused", x.item(3, sort, 39), 1);
        }
        for (int sort : new int[] {-2, 5, MIN, MAX}) {
            due("sheet of sort " + sort, x.sheet(0, sort, 1), -1);
            due("sheet of sort " + sort + " below 0", x.sheet(0, sort, -1), -1);
        }
        due("sheet 4 below 0", x.sheet(4, 0, -1), -1);

        says("A SHEET becomes a row of n of a sort, all 0, or missing (sort -1)");
        for (int i = 0; i < 40; i++) x.put(3, i, 1);
        x.sheet(3, 4, 40);
        for (int i = 0; i < 40; i++) due("all 0", x.item(3, 4, i), 0);
        x.put(3, 0, 1);
        x.sheet(3, 2, 1);
        due("0", x.item(3, 2, 0), 0);
        due("another sort", x.item(3, 4, 0), -13);
        due("no second", x.item(3, 2, 1), -12);
        due("missing", x.sheet(3, -1, 1), 1);
        due("item of a missing sheet", x.item(3, 2, 0), -11);
        due("missing again", x.sheet(3, -1, 0), 1);
        due("missing of 41", x.sheet(3, -1, 41), -1);
    }

    private static void items() {
        says("Item i becomes v, narrowed to its sort (booleans: whether it isn't 0)");
        int[] told = {0, 1, -1, 2, 127, 128, 255, 256, -128, -129, 32767, 32768, 65535, 65536, -32768, -32769, MAX, MIN};
        int[] bytes = {0, 1, -1, 2, 127, -128, -1, 0, -128, 127, -1, 0, -1, 0, 0, -1, -1, 0};
        int[] shorts = {0, 1, -1, 2, 127, 128, 255, 256, -128, -129, 32767, -32768, -1, 0, -32768, 32767, -1, 0};
        FriarLists x = new FriarLists();
        for (int sort = 0; sort < 3; sort++) x.sheet(sort, sort, 1);
        for (int i = 0; i < told.length; i++) {
            for (int s = 0; s < 3; s++) due("put " + told[i], x.put(s, 0, told[i]), 1);
            due("byte of " + told[i], x.item(0, 0, 0), bytes[i]);
            due("short of " + told[i], x.item(1, 1, 0), shorts[i]);
            due("int of " + told[i], x.item(2, 2, 0), told[i]);
        }
        x.sheet(0, 3, 1);
        x.sheet(1, 4, 1);
        for (int v : told) {
            for (int s = 0; s < 2; s++) x.put(s, 0, v);
            due("long of " + v, x.item(0, 3, 0), v);
            due("boolean of " + v, x.item(1, 4, 0), v == 0 ? 0 : 1);
        }

        says("Item i, taken for a sort: BAD: no such SHEET, sort; -13; -11; -12. (An item may be as low as these, too.)");
        FriarLists y = new FriarLists();
        for (int own = 0; own < 5; own++) {
            y.sheet(0, own, 3);
            for (int sort = 0; sort < 5; sort++) {
                due("sort " + own + " taken for " + sort, y.item(0, sort, 2), own == sort ? 0 : -13);
                due("outside of sort " + own + " taken for " + sort, y.item(0, sort, 3), own == sort ? -12 : -13);
            }
            for (int sort : new int[] {-1, 5, MIN, MAX}) due("sort " + own + " taken for " + sort, y.item(0, sort, 0), -1);
            for (int i : new int[] {-1, 3, MIN, MAX}) {
                due("item " + i, y.item(0, own, i), -12);
                due("put to item " + i, y.put(0, i, 1), -12);
            }
        }
        y.sheet(0, 2, 1);
        for (int v : new int[] {-1, -11, -12, -13, -14}) {
            due("put", y.put(0, 0, v), 1);
            due("an item as low as a refusal", y.item(0, 2, 0), v);
        }
    }

    private static void fill(FriarLists x, int sheet, int from, int... items) {
        for (int i = 0; i < items.length; i++) x.put(sheet, from + i, items[i]);
    }

    private static void comers() {
        says("items i to i + 4 are what captive() is told, in its order: what that answers");
        FriarLists x = new FriarLists();
        x.sheet(0, 2, 40);
        fill(x, 0, 0, 3, 534, 90, 0, 999);
        fill(x, 0, 35, 4, 123, 1, 0, 1);
        due("comes from the first", x.comes(0, 0), 0);
        due("comes from the last that has five", x.comes(0, 35), 1);
        for (int i : new int[] {-1, 36, 39, 40, MIN, MAX}) due("comes from " + i, x.comes(0, i), -12);
        int[] of = {3, 5, 3, 4, 0, 999};
        for (int what = 0; what < 6; what++) due("of(0, " + what + ")", x.of(0, what), of[what]);
        due("of(0, 9)", x.of(0, 9), 90);
        due("no name", x.comes(0, 1), -1);
        due("all 0", x.comes(0, 20), -1);
        int[][] wrongOnes = {{27, 0, 1, 0, 1}, {1, 600, 1, 0, 1}, {1, 0, 91, 0, 1}, {1, 0, 1, 1, 1}, {1, 0, 1, 0, 1000}};
        for (int[] items : wrongOnes) {
            fill(x, 0, 10, items);
            due("what captive() refuses", x.comes(0, 10), -1);
        }
        for (int c = 2; c < 16; c++) due("comes", x.comes(0, 0), c);
        due("comes as a 17th", x.comes(0, 0), -2);
        due("comes as a 17th without a name", x.comes(0, 20), -1);
        due("comes from outside as a 17th", x.comes(0, 36), -12);

        says("from a SHEET taken for ints. BAD: no such SHEET; -13; -11; -12");
        FriarLists y = new FriarLists();
        for (int sort = 0; sort < 5; sort++) {
            y.sheet(0, sort, 5);
            fill(y, 0, 0, 1, 0, 1, 0, 1);
            due("comes from sort " + sort, y.comes(0, 0), sort == 2 ? 0 : -13);
            due("comes from outside of sort " + sort, y.comes(0, 1), sort == 2 ? -12 : -13);
            y.sheet(0, sort, 4);
            due("comes from four", y.comes(0, 0), sort == 2 ? -12 : -13);
            y.sheet(0, sort, 0);
            due("comes from none", y.comes(0, 0), sort == 2 ? -12 : -13);
        }
        due("captives", y.many(1), 1);
    }

    private static void shelves() {
        says("SHELVES 0 to 3 hold ALMS, a LEGACY, a SHIP, a CAPTIVE, a SHEET's row, or nothing (at first)");
        FriarLists x = new FriarLists();
        int[] kinds = {0, 1, 2, 3, 4, 5, 6, 10, 11, 12, 13, 14};
        for (int s = 0; s < 4; s++) {
            for (int as : kinds) due("shelf " + s + " at first", x.taken(s, as), -11);
        }

        says("BAD: no such SHELF, what, thing");
        for (int s : new int[] {-1, 4, MIN, MAX}) {
            due("shelf " + s, x.shelf(s, 5, 0), -1);
            due("taken of shelf " + s, x.taken(s, 0), -1);
        }
        for (int what : new int[] {-1, 6, MIN, MAX}) due("what " + what, x.shelf(0, what, 0), -1);
        for (int what = 0; what < 4; what++) {
            for (int n : new int[] {-1, 0, 24, MIN, MAX}) due("thing " + n + " of " + what, x.shelf(0, what, n), -1);
        }
        for (int n : new int[] {-1, 4, MIN, MAX}) due("sheet " + n, x.shelf(0, 4, n), -1);
        for (int n : new int[] {-1, 0, MAX}) due("nothing " + n, x.shelf(0, 5, n), 1);
        for (int i = 0; i < 24; i++) x.alms(0, 99);
        for (int i = 0; i < 6; i++) x.legacy(9);
        for (int i = 0; i < 4; i++) x.ship(1, 1);
        for (int i = 0; i < 16; i++) one(x, 0, 5);
        int[] most = {24, 6, 4, 16};
        for (int what = 0; what < 4; what++) {
            due("the last thing of " + what, x.shelf(what, what, most[what] - 1), 1);
            due("behind the last thing of " + what, x.shelf(what, what, most[what]), -1);
            due("ahead of the first thing of " + what, x.shelf(what, what, -1), -1);
            due("the last thing stays", x.taken(what, 0), most[what] - 1);
        }

        says("taken for a paper of kind as (0 to 6, or one under it): its number; -13");
        int[][] takes = {{1, 1, 0, 0, 0, 0, 0}, {1, 1, 1, 0, 0, 0, 0}, {1, 0, 0, 1, 0, 0, 0}, {1, 0, 0, 0, 1, 0, 0}};
        for (int what = 0; what < 4; what++) {
            for (int as = 0; as < 7; as++) due("shelf " + what + " taken as " + as, x.taken(what, as), takes[what][as] == 1 ? most[what] - 1 : -13);
            for (int as = 10; as < 15; as++) due("shelf " + what + " taken as " + as, x.taken(what, as), -13);
            for (int as : new int[] {-1, 7, 8, 9, 15, MIN, MAX}) due("shelf " + what + " taken as " + as, x.taken(what, as), -1);
        }

        says("A CAPTIVE who is HELD is a price, who is BOUGHT a bought one, who is AT SEA or OFF an owed one, else nothing");
        int[][] ways = {{1, 0, 0, 0, 1, 0, 0}, {1, 0, 0, 0, 1, 1, 0}, {1, 0, 0, 0, 1, 1, 1}};
        FriarLists y = withCaptives(2, 5);
        y.shelf(0, 3, 1);
        for (int as = 0; as < 7; as++) due("held, taken as " + as, y.taken(0, as), ways[0][as] == 1 ? 1 : -13);
        y.openBox(0, 7, 5);
        y.buy(1, -1);
        for (int as = 0; as < 7; as++) due("bought, taken as " + as, y.taken(0, as), ways[1][as] == 1 ? 1 : -13);
        y.sails(0, 1, 100);
        y.ship(1, 1);
        y.aboard(1, 0);
        for (int as = 0; as < 7; as++) due("aboard, taken as " + as, y.taken(0, as), ways[1][as] == 1 ? 1 : -13);
        y.sail(0);
        for (int as = 0; as < 7; as++) due("at sea, taken as " + as, y.taken(0, as), ways[2][as] == 1 ? 1 : -13);
        y.weeks(1);
        for (int as = 0; as < 7; as++) due("off, taken as " + as, y.taken(0, as), ways[2][as] == 1 ? 1 : -13);
        y.weeks(2);
        for (int as : kinds) due("home, taken as " + as, y.taken(0, as), -11);
        due("home, act", y.act(0, 0, 5), 0);
        due("one who is home on a shelf", y.shelf(1, 3, 1), 1);
        due("one who is home, taken", y.taken(1, 0), -11);
        for (int to = 5; to < 8; to++) {
            FriarLists lost = withCaptives(1, 5);
            lost.shelf(0, 3, 0);
            lost.lose(0, to);
            for (int as : kinds) due("lost to " + to + ", taken as " + as, lost.taken(0, as), -11);
            due("lost, act", lost.act(0, 0, 5), 0);
            due("lost, taken as 7", lost.taken(0, 7), -1);
        }

        says("for a row of sort as - 10 (as 10 to 14): how many items; the row of SHEET n (4; nothing, if missing)");
        FriarLists z = new FriarLists();
        for (int sort = 0; sort < 5; sort++) {
            for (int n : new int[] {0, 1, 40}) {
                z.sheet(3, sort, n);
                due("shelf of a row", z.shelf(3, 4, 3), 1);
                for (int as : kinds) due("row of " + n + " of sort " + sort + " taken as " + as, z.taken(3, as), as == sort + 10 ? n : -13);
            }
        }
        z.sheet(3, -1, 0);
        due("shelf of a missing sheet", z.shelf(3, 4, 3), 1);
        for (int as : kinds) due("missing taken as " + as, z.taken(3, as), -11);
        z.sheet(3, 0, 2);
        due("nothing still", z.taken(3, 10), -11);
        z.shelf(3, 4, 3);
        due("two items", z.taken(3, 10), 2);
        z.shelf(3, 5, 9);
        due("nothing", z.taken(3, 10), -11);
    }

    private static void manys() {
        says("How many: what = 0 to 14, 20 + s; BAD: another what");
        FriarLists x = new FriarLists();
        for (int what = 0; what < 15; what++) due("many(" + what + ") at first", x.many(what), 0);
        for (int s = 0; s < 8; s++) due("many(" + (20 + s) + ") at first", x.many(20 + s), 0);
        for (int what : new int[] {-1, 15, 16, 17, 18, 19, 28, 29, MIN, MAX}) due("many(" + what + ")", x.many(what), -1);
        for (int c = 0; c < 16; c++) one(x, 0, 5);
        due("all are held", x.many(20), 16);
        for (int c = 0; c < 16; c++) x.lose(c, 5 + c % 3);
        int[] states = {0, 0, 0, 0, 0, 6, 5, 5};
        for (int s = 0; s < 8; s++) due("many(" + (20 + s) + ")", x.many(20 + s), states[s]);
        due("many(1)", x.many(1), 16);
    }

    /** Each list holds as many as it may. */
    private static FriarLists full() {
        FriarLists x = withCaptives(16, 5);
        for (int i = 0; i < 12; i++) x.news(0, 1);
        for (int i = 0; i < 24; i++) x.alms(0, 1);
        for (int i = 0; i < 12; i++) x.openBox(0, 0, 1);
        for (int i = 0; i < 6; i++) x.legacy(1);
        for (int i = 0; i < 8; i++) x.read();
        for (int i = 0; i < 20; i++) x.proof(0, 0);
        for (int i = 0; i < 4; i++) x.ship(1, 1);
        for (int i = 0; i < 8; i++) x.voyage(1, 1, 0);
        return x;
    }

    private static void kept() {
        says("again: NONE: nothing is kept");
        FriarLists x = new FriarLists();
        due("again", x.again(), -3);
        x.weeks(1);
        due("again", x.again(), -3);
        due("many(0)", x.many(0), 1);

        says("It becomes what was kept latest (which stays)");
        due("keep", x.keep(), 1);
        x.weeks(1);
        due("keep", x.keep(), 1);
        for (int i = 0; i < 3; i++) {
            x.weeks(7);
            one(x, 0, 5);
            due("again", x.again(), 1);
            due("many(0)", x.many(0), 2);
            due("many(1)", x.many(1), 0);
        }
        due("again at once", x.again(), 1);

        says("a new object is kept: all is empty again");
        FriarLists empty = new FriarLists();
        empty.keep();
        for (int c = 0; c < 16; c++) one(empty, 0, 5);
        empty.openBox(0, 0, 9999);
        empty.weeks(200);
        empty.again();
        for (int what = 0; what < 15; what++) due("many(" + what + ")", empty.many(what), 0);
        due("the first again", one(empty, 0, 5), 0);

        says("full lists are kept, and become so again");
        FriarLists full = full();
        int[] most = {0, 16, 12, 24, 12, 6, 8, 20, 4, 8, 0, 0, 0, 12, 12};
        for (int what = 0; what < 15; what++) due("many(" + what + ") of full lists", full.many(what), most[what]);
        full.keep();
        full.weeks(1);
        full.again();
        for (int what = 0; what < 15; what++) due("many(" + what + ") again", full.many(what), most[what]);
        due("captive", one(full, 0, 5), -2);
        due("news", full.news(0, 1), -2);
        due("alms", full.alms(0, 1), -2);
        due("openBox", full.openBox(0, 0, 1), -2);
        due("legacy", full.legacy(1), -2);
        due("read", full.read(), -2);
        due("proof", full.proof(0, 0), -2);
        due("ship", full.ship(1, 1), -2);
        due("voyage", full.voyage(1, 1, 0), -2);

        says("All but THE TAPE, ROWS, SHEETS, SHELVES, THE TRACE is kept");
        FriarLists y = withCaptives(2, 5);
        y.sheet(0, 2, 3);
        y.put(0, 2, 8);
        y.shelf(0, 3, 1);
        y.shelf(1, 4, 0);
        feed(y, "rank");
        y.mole(1, 5);
        y.act(0, 1, 5);
        y.keep();
        feed(y, " 4;");
        y.mole(1, 10);
        y.alterRow(1, 1, 77);
        y.put(0, 2, 9);
        y.sheet(1, 0, 7);
        y.shelf(2, 4, 1);
        y.act(0, 0, 5);
        y.again();
        due("the tape stays", y.many(11), 7);
        due("rows stay", y.many(10), 2);
        due("a row stays as altered", y.row(1, 1), 77);
        due("a sheet's item stays", y.item(0, 2, 2), 9);
        due("a sheet stays", y.item(1, 0, 6), 0);
        due("a shelf stays", y.taken(2, 10), 7);
        due("the trace stays", y.many(12), 1);
        due("the trace stays", y.trace(0), 10);
        due("the tape is read", y.read(), 0);
        due("rank", y.rank(0, 0), 4);

        says("one that is not there any more is nothing");
        FriarLists z = new FriarLists();
        z.keep();
        z.alms(0, 9);
        z.legacy(9);
        z.ship(1, 9);
        one(z, 0, 9);
        for (int s = 0; s < 4; s++) z.shelf(s, s, 0);
        for (int s = 0; s < 4; s++) due("there", z.taken(s, 0), 0);
        z.again();
        for (int s = 0; s < 4; s++) {
            for (int as : new int[] {0, 1, 2, 3, 4, 5, 6, 10, 14}) due("nothing on shelf " + s, z.taken(s, as), -11);
            due("act of nothing", z.act(s, 0, 5), 0);
            due("no trace", z.many(12), 0);
        }

        says("THE READER: no such CAPTIVE any more");
        FriarLists w = withCaptives(1, 5);
        w.keep();
        one(w, 0, 5);
        w.mole(1, 10);
        due("both are there", w.judge(1, 10), 0);
        w.again();
        due("the second isn't", w.judge(1, 10), 2);
    }
}
