import java.lang.reflect.InvocationTargetException;
import java.lang.reflect.Method;
import java.util.ArrayDeque;
import java.util.ArrayList;
import java.util.Arrays;
import java.util.Deque;
import java.util.HashMap;
import java.util.List;
import java.util.Map;
import java.util.Random;

/**
 * The document read a second time: Book is another program of all its promises, in its plainest words, with trials of
 * all that there are where the class has a shorter way. Both are told runs of calls at random, and must answer the same.
 */
public final class SecondReadingTest {
    private static final int BAD = -1, FULL = -2, NONE = -3, STATE = -4;
    private static final int RUNS = 2000, CALLS_OF_A_RUN = 512;
    private static final Random dice = new Random(1218);
    private static int asked = 0;

    /** Each call of the face: how often it comes, its name, what its numbers are about. */
    private static final String[] CALLS = {
        "30 weeks step", "30 captive name who age taken paid", "40 of captive 0..13", "14 sick captive is",
        "6 turned captive is", "4 lose captive 5..7", "2 master 0..4 1..4",
        "8 news captiveOrAll 1..9", "3 lag 1..4 1..20", "3 premium 0..3 0..500", "14 ask captive week",
        "3 sound 1..26 0..5", "6 key name", "8 meant name -1..5", "8 question name -1..5",
        "14 alms 0..5 1..99", "8 openBox 0..5 0..7 found", "6 lack opening", "6 shortSince 0..5",
        "6 legacy legate", "10 legacyOf left 0..2",
        "1 feed eight 1..8", "2 read", "6 version text line", "10 rank captive week", "8 barred captive week",
        "8 may left captive week", "10 proof captive -1..5",
        "6 rate 0..4 0..2 0..2 1..3000", "4 sails 0..4 0..4 sail", "6 brought 1..4 0..2 0..2 1..99999",
        "8 road 1..4 1..99 0..7",
        "12 mole 1..4 purse", "8 row row 0..1", "3 alterRow row 0..1 rowValue", "10 judge 1..4 purse",
        "30 buy captive payer", "6 twice captive", "4 waits price 0..60 0..60 0..6 price 0..1",
        "6 ship 1..4 1..16", "40 aboard captive ship", "12 sail ship", "6 voyage 1..999 1..9 0..3",
        "6 years purse -2..3",
        "6 sheet 0..3 -1..4 size", "10 put 0..3 0..9 any", "8 item 0..3 0..4 0..9", "6 comes 0..3 0..6",
        "14 shelf 0..3 thing 0..5", "12 taken 0..3 as", "16 act 0..3 0..3 any", "14 trace 0..9", "20 many many",
        "3 keep", "2 again",
    };

    public static void main(String[] args) throws Exception {
        Map<String, Method> ofClass = methods(FriarLists.class), ofBook = methods(Book.class);
        for (String call : CALLS) {
            String name = call.split(" ")[1];
            if (!ofClass.containsKey(name) || !ofBook.containsKey(name)) fails("there is no " + name);
        }
        if (ofClass.size() != CALLS.length) fails("the face has " + ofClass.size() + " methods");
        for (int run = 0; run < RUNS; run++) oneRun(run, ofClass, ofBook);
        System.out.println(asked + " answers are the same at a second reading");
    }

    private static void fails(String why) {
        System.out.println(why);
        System.exit(1);
    }

    private static Map<String, Method> methods(Class<?> c) {
        Map<String, Method> named = new HashMap<>();
        for (Method m : c.getDeclaredMethods()) {
            boolean isOfFace = java.lang.reflect.Modifier.isPublic(m.getModifiers());
            if (isOfFace) named.put(m.getName(), m);
        }
        return named;
    }

    // ---- runs

    /** Of each run some calls come often and others seldom, and the numbers that it tells are tame or wild. */
    private static void oneRun(int run, Map<String, Method> ofClass, Map<String, Method> ofBook) throws Exception {
        FriarLists x = new FriarLists();
        Book book = new Book();
        Numbers numbers = new Numbers(book, run % 4 == 3 ? 12 : 2, run % 3 == 0 ? 0 : some(0, 2));
        int[] weights = new int[CALLS.length];
        int sum = 0;
        for (int i = 0; i < CALLS.length; i++) {
            weights[i] = Integer.parseInt(CALLS[i].split(" ")[0]) * (run % 2 == 0 ? some(1, 2) : some(0, 6));
            sum += weights[i];
        }
        StringBuilder told = new StringBuilder();
        Deque<Object[]> due = new ArrayDeque<>();
        if (some(0, 4) > 0) numbers.tellFirst(due);
        for (int i = 0; i < CALLS_OF_A_RUN; i++) {
            if (due.isEmpty() && some(0, 59) == 0) numbers.tellText(due);
            if (due.isEmpty()) due.add(numbers.callOf(CALLS[drawn(weights, sum)]));
            Object[] call = due.poll();
            Object[] values = Arrays.copyOfRange(call, 1, call.length);
            Object got = answerOf(ofClass.get((String) call[0]), x, values);
            Object want = answerOf(ofBook.get((String) call[0]), book, values);
            asked++;
            told.append(call[0]).append(Arrays.toString(values)).append(" -> ").append(got).append('\n');
            if (!got.equals(want)) fails("run " + run + ":\n" + told + "due is " + want);
            if (due.isEmpty() && some(0, 1) == 0) numbers.tellBehind(call, due);
        }
    }

    private static int drawn(int[] weights, int sum) {
        int left = dice.nextInt(sum);
        for (int i = 0; i < weights.length; i++) {
            left -= weights[i];
            if (left < 0) return i;
        }
        return 0;
    }

    private static Object answerOf(Method m, Object of, Object[] values) throws Exception {
        try {
            return m.invoke(of, values);
        } catch (InvocationTargetException e) {
            return "threw " + e.getCause();
        }
    }

    private static int some(int least, int most) {
        return least + dice.nextInt(most - least + 1);
    }

    /** The numbers that calls are told: most are as the document tells them, some stand at an edge or beyond it. */
    private static final class Numbers {
        private final Book book;
        private final int wild;
        private final int tempo;
        private static final String[] FACTS = {"age", "weeks", "trade", "parish", "paid", "master"};

        Numbers(Book book, int wild, int tempo) {
            this.book = book;
            this.wild = wild;
            this.tempo = tempo;
        }

        Object[] callOf(String form) {
            String[] parts = form.split(" ");
            Object[] call = new Object[parts.length - 1];
            call[0] = parts[1];
            for (int i = 2; i < parts.length; i++) call[i - 1] = valueOf(parts[i]);
            return call;
        }

        private Object valueOf(String about) {
            if (about.equals("is")) return dice.nextBoolean();
            if (about.equals("eight")) return dice.nextLong();
            if (some(0, 99) < wild) {
                int[] odd = {-1, -2, 0, 1, 5, 6, 7, 10, 28, 41, 100, 1999, 2000, 1 << 16, 1 << 30};
                switch (some(0, 5)) {
                    case 0: return Integer.MAX_VALUE - some(0, 1);
                    case 1: return Integer.MIN_VALUE + some(0, 1);
                    case 2: return dice.nextInt();
                    default: return odd[some(0, odd.length - 1)];
                }
            }
            if (about.contains("..")) {
                String[] ends = about.split("\\.\\.");
                return between(Integer.parseInt(ends[0]), Integer.parseInt(ends[1]));
            }
            return named(about);
        }

        private int between(int least, int most) {
            int where = some(0, 49);
            if (where < 2) return where == 0 ? least - 1 : most + 1;
            return where < 5 ? least : where < 8 ? most : some(least, most);
        }

        private int named(String about) {
            int souls = book.now.souls.size(), now = book.now.week;
            switch (about) {
                case "step": return some(0, 19) == 0 ? between(1, 200) : tempo == 0 ? 1 : some(1, 1 + 3 * tempo);
                case "name": return name();
                case "who": return 100 * between(0, 5) + 10 * some(0, 3) + some(0, 19) / 4;
                case "age": return between(1, 90);
                case "taken": return some(0, 3) == 0 ? between(0, now) : Math.max(0, now - some(0, 3));
                case "paid": return some(0, 5) == 0 ? between(1, 999) : some(1, 40);
                case "captive": return souls == 0 || some(0, 39) == 0 ? between(0, 16) : some(0, souls - 1);
                case "captiveOrAll": return some(0, 1) == 0 ? -1 : named("captive");
                case "week": return some(0, 3) == 0 ? between(0, 1999) : Math.max(0, now + some(-8, 8));
                case "opening": return numberOf(book.now.openings);
                case "left": return numberOf(book.now.legacies);
                case "payer": return some(0, 1) == 0 ? -1 : numberOf(book.now.legacies);
                case "text": return numberOf(book.now.versions);
                case "row": return numberOf(book.rows);
                case "ship": return numberOf(book.now.ships);
                case "found": return some(0, 2) == 0 ? between(0, 9999) : some(0, 120);
                case "legate": return some(0, 3) == 0 ? between(1, 9999) : some(1, 200);
                case "line": return some(0, 3) == 0 ? between(0, 39) : some(0, 1) * 20 + some(9, 19);
                case "sail": return some(0, 4) == 0 ? between(0, 999) : 100 * some(0, 3) + some(0, 4) * some(0, 24);
                case "purse": return some(0, 2) == 0 ? between(0, 99999) : some(0, 600);
                case "rowValue": return some(0, 2) == 0 ? some(0, 60) : some(0, 1) == 0 ? some(-1, 16) : ofSomeRow();
                case "price": return some(0, 3) == 0 ? between(1, 9999) : some(1, 300);
                case "size": return some(0, 3) == 0 ? between(0, 40) : some(0, 11);
                case "thing": return some(0, 29) == 0 ? between(0, 5) : some(0, 8) * 2 / 3;
                case "as": return some(0, 9) == 0 ? between(0, 14) : some(0, 3) == 0 ? some(10, 14) : some(0, 6);
                case "many": return some(0, 3) == 0 ? between(0, 27) : some(0, 1) * 13 + some(0, 14);
                case "any": return some(0, 2) == 0 ? dice.nextInt() : some(-40, 400);
                default: throw new IllegalStateException(about);
            }
        }

        private int ofSomeRow() {
            return book.rows.isEmpty() ? 0 : book.rows.get(some(0, book.rows.size() - 1))[some(0, 1)];
        }

        private int numberOf(List<?> things) {
            return things.isEmpty() || some(0, 29) == 0 ? between(0, things.size()) : some(0, things.size() - 1);
        }

        private int name() {
            if (some(0, 29) == 0) return dice.nextInt(387420489 + 100);
            int n = 0, letters = some(0, 9) == 0 ? 6 : some(1, 3);
            String few = "abpdtahe";
            for (int i = 0; i < letters; i++) {
                n = n * 27 + (some(0, 5) == 0 ? some(1, 26) : few.charAt(some(0, few.length() - 1)) - 'a' + 1);
            }
            return n;
        }

        /** What most runs begin with: some of all that can be bought, sailed and told about. */
        void tellFirst(Deque<Object[]> due) {
            String[] forms = {"1 captive name who age taken paid", "1 openBox 0..5 0..7 found", "1 legacy legate",
                "1 sails 0..4 0..4 sail", "1 ship 1..4 1..16", "1 voyage price 1..9 0..3", "1 sheet 0..3 -1..4 size",
                "1 alms 0..5 1..99"};
            for (int i = some(0, 24); i > 0; i--) due.add(callOf(forms[some(0, forms.length - 1)]));
            for (int port = 1; port < 5 && some(0, 5) > 0; port++) {
                due.add(new Object[] {"sails", port, some(0, port - 1), 100 * some(1, 4) + some(0, 3) * some(0, 33)});
                due.add(new Object[] {"ship", port, some(1, 5)});
                due.add(new Object[] {"openBox", port, 7, some(0, 500)});
            }
        }

        /** Asks for what a call may have changed. */
        void tellBehind(Object[] call, Deque<Object[]> due) {
            int row = some(0, Math.max(0, book.rows.size() - 1));
            switch ((String) call[0]) {
                case "put":
                    due.add(new Object[] {"item", call[1], book.sortThere((Integer) call[1]), call[2]});
                    break;
                case "shelf":
                    due.add(new Object[] {"taken", call[1], some(0, 6)});
                    due.add(new Object[] {"act", call[1], some(0, 3), some(-99, 99)});
                    break;
                case "act":
                    for (int i = 0; i < 4; i++) due.add(new Object[] {"trace", some(0, 9)});
                    break;
                case "mole":
                    due.add(new Object[] {"row", row, some(0, 1)});
                    if (some(0, 2) == 0) due.add(new Object[] {"alterRow", row, some(0, 1), named("rowValue")});
                    due.add(new Object[] {"judge", call[1], some(0, 2) == 0 ? named("purse") : call[2]});
                    break;
                case "sail":
                    due.add(new Object[] {"weeks", some(1, 3)});
                    due.add(new Object[] {"sick", some(0, 6), true});
                    due.add(new Object[] {"weeks", some(1, 8)});
                    due.add(new Object[] {"many", some(22, 24)});
                    break;
                default:
                    break;
            }
        }

        // -- texts

        void tellText(Deque<Object[]> due) {
            List<String> words = new ArrayList<>();
            int lines = some(0, 11) == 0 ? 10 : some(0, 4);
            for (int i = 0; i < lines; i++) line(words, lines > 5);
            if (some(0, 2) == 0) spoil(words);
            byte[] bytes = bytesOf(words);
            for (int at = 0; at < bytes.length; at += 8) {
                long eight = dice.nextLong();
                int n = Math.min(8, bytes.length - at);
                for (int i = 0; i < n; i++) eight = eight & ~(255L << 8 * i) | (bytes[at + i] & 255L) << 8 * i;
                due.add(new Object[] {"feed", eight, n});
            }
            due.add(new Object[] {"read"});
        }

        private byte[] bytesOf(List<String> words) {
            StringBuilder text = new StringBuilder();
            for (String word : words) {
                boolean mustPart = text.length() > 0 && isRow(text.charAt(text.length() - 1)) && isRow(word.charAt(0));
                if (mustPart || some(0, 19) == 0) text.append(' ');
                text.append(word);
            }
            if (some(0, 9) == 0) text.append("  ");
            return text.toString().getBytes(java.nio.charset.StandardCharsets.ISO_8859_1);
        }

        private static boolean isRow(char c) {
            return c >= 'a' && c <= 'z' || c >= '0' && c <= '9';
        }

        private void line(List<String> words, boolean isShort) {
            switch (some(0, 3)) {
                case 0:
                    words.add("rank");
                    words.add("" + some(0, 9));
                    if (isShort || some(0, 3) == 0) break;
                    words.add("if");
                    condition(words, 0);
                    break;
                case 1:
                    words.add("bar");
                    words.add("if");
                    condition(words, isShort ? 9 : 0);
                    break;
                case 2:
                    words.add("left");
                    words.add("" + some(0, 5));
                    words.add("buys");
                    condition(words, isShort ? 9 : 0);
                    break;
                default:
                    words.add("proof");
                    words.add("" + some(0, some(0, 5) == 0 ? 9 : 2));
                    break;
            }
            words.add(";");
        }

        private void condition(List<String> words, int depth) {
            one(words, depth);
            while (depth < 9 && some(0, 2) == 0) {
                words.add(some(0, 1) == 0 ? "and" : "or");
                one(words, depth);
            }
        }

        private void one(List<String> words, int depth) {
            while (some(0, 5) == 0) words.add("not");
            if (depth < 5 && some(0, 4) == 0) {
                words.add("(");
                condition(words, depth + 1);
                words.add(")");
                return;
            }
            int what = some(0, 7);
            if (what > 5) {
                words.add(what == 6 ? "sick" : "turned");
                return;
            }
            int[] greatest = {100, 60, 4, 6, 50, 5};
            words.add(FACTS[what]);
            words.add("" + "<=>".charAt(some(0, 2)));
            words.add("" + (some(0, 19) == 0 ? some(0, 999) : some(0, greatest[what])));
        }

        private void spoil(List<String> words) {
            String[] odd = {"rank", "if", "bar", "left", "buys", "proof", "or", "and", "not", "(", ")", "<", ";", "age",
                "sick", "turned", "6", "10", "999", "1000", "0007", "007", "A", "\t", "\u00e9", "ranks", "x", "=", "0"};
            for (int i = some(1, 2); i > 0; i--) {
                int at = some(0, words.size());
                int how = some(0, 3);
                if (how == 0 || words.isEmpty() || at == words.size()) words.add(at, odd[some(0, odd.length - 1)]);
                else if (how == 1) words.remove(at);
                else if (how == 2) words.set(at, odd[some(0, odd.length - 1)]);
                else words.subList(at, words.size()).clear();
            }
        }
    }

    // ---- the second program

    private static final class Soul {
        int name, parish, trade, master, age, taken, paid, state, price, offTill;
        int legacy = NONE, ship = NONE;
        boolean turned, otherOrder;
        /** Each time that they were sick: {WEEK, the moment it was told, the moment they were healed or -1}. */
        final List<int[]> sickness = new ArrayList<>();

        Soul copy() {
            Soul s = new Soul();
            s.name = name;
            s.parish = parish;
            s.trade = trade;
            s.master = master;
            s.age = age;
            s.taken = taken;
            s.paid = paid;
            s.state = state;
            s.price = price;
            s.offTill = offTill;
            s.legacy = legacy;
            s.ship = ship;
            s.turned = turned;
            s.otherOrder = otherOrder;
            for (int[] time : sickness) s.sickness.add(time.clone());
            return s;
        }

        /** NONE: they are not. */
        int sickSince() {
            if (sickness.isEmpty()) return NONE;
            int[] latest = sickness.get(sickness.size() - 1);
            return latest[2] < 0 ? latest[0] : NONE;
        }

        boolean wasSickAfter(int moment) {
            for (int[] time : sickness) {
                if (time[2] < 0 || time[2] > moment) return true;
            }
            return false;
        }

        int weeksAt(int week) {
            return week < taken ? 0 : week - taken;
        }

        int ageIn(int week) {
            int years = 0;
            for (int w = taken + 52; w <= week; w += 52) years++;
            return age + years;
        }
    }

    private record Opening(int parish, int keys, int found, int week, int lack, int weekAhead) { }

    private record Line(int sort, int n, List<String> cond) { }

    private record Version(int week, List<Line> lines) { }

    private static final class Vessel {
        int port, pass, comes = -1, sailed = -1;
        final List<Integer> whoSailed = new ArrayList<>();

        Vessel copy() {
            Vessel v = new Vessel();
            v.port = port;
            v.pass = pass;
            v.comes = comes;
            v.sailed = sailed;
            v.whoSailed.addAll(whoSailed);
            return v;
        }
    }

    /** All that is kept. */
    private static final class Now {
        int week, chest, moment;
        List<Soul> souls = new ArrayList<>();
        List<Vessel> ships = new ArrayList<>();
        int[] masterPort = {1, 1, 1, 1, 1}, lag = {4, 4, 4, 4, 4}, premium = new int[4], sound = new int[27];
        /** {of whom, WEIGHT, WEEK} */
        List<int[]> news = new ArrayList<>();
        /** In order of telling: {PARISH, amount}, and {PARISH, -1} where its BOX was opened. */
        List<int[]> boxes = new ArrayList<>();
        /** Of each of the ALMS its amount. */
        List<Integer> alms = new ArrayList<>();
        List<Opening> openings = new ArrayList<>();
        /** {amount, left} */
        List<int[]> legacies = new ArrayList<>();
        List<Version> versions = new ArrayList<>();
        /** {CAPTIVE, PARISH} */
        List<int[]> proofs = new ArrayList<>();
        int[][][] rate = new int[5][3][3];
        int[][] sails = new int[5][5];
        /** {cost, brings, RANK} */
        List<int[]> voyages = new ArrayList<>();

        Now() {
            for (int[][] port : rate) {
                for (int[] from : port) Arrays.fill(from, 1000);
            }
            String[] classes = {"aehiouy", "bfpvw", "cgjkqsxz", "dt", "lr", "mn"};
            for (int c = 0; c < 6; c++) {
                for (char letter : classes[c].toCharArray()) sound[letter - 'a' + 1] = c;
            }
        }

        Now copy() {
            Now n = new Now();
            n.week = week;
            n.chest = chest;
            n.moment = moment;
            for (Soul s : souls) n.souls.add(s.copy());
            for (Vessel v : ships) n.ships.add(v.copy());
            n.masterPort = masterPort.clone();
            n.lag = lag.clone();
            n.premium = premium.clone();
            n.sound = sound.clone();
            n.news.addAll(news);
            n.boxes.addAll(boxes);
            n.alms.addAll(alms);
            n.openings.addAll(openings);
            for (int[] l : legacies) n.legacies.add(l.clone());
            n.versions.addAll(versions);
            n.proofs.addAll(proofs);
            for (int p = 0; p < 5; p++) {
                n.sails[p] = sails[p].clone();
                for (int a = 0; a < 3; a++) n.rate[p][a] = rate[p][a].clone();
            }
            n.voyages.addAll(voyages);
            return n;
        }
    }

    /** Papers as part 9 tells them, each KIND a class under the one that it is told to be under. */
    private static class PaperOf {
        final int n, a;
        final List<Integer> trace;

        PaperOf(int n, int a, List<Integer> trace) {
            this.n = n;
            this.a = a;
            this.trace = trace;
        }

        int counts(int x) {
            trace.add(10);
            return x + n;
        }

        int binds(int x) {
            trace.add(11);
            return counts(x) * 2;
        }

        int goes(int x) {
            trace.add(12);
            return x / (a - n);
        }

        int tells(int x) {
            trace.add(13);
            return binds(x) - a;
        }
    }

    private static class AlmsOf extends PaperOf {
        AlmsOf(int n, int a, List<Integer> trace) {
            super(n, a, trace);
        }

        @Override int counts(int x) {
            trace.add(20);
            return super.counts(x) + a;
        }
    }

    private static final class LeftOf extends AlmsOf {
        LeftOf(int n, int a, List<Integer> trace) {
            super(n, a, trace);
        }

        @Override int binds(int x) {
            trace.add(30);
            return super.binds(x) ^ counts(1);
        }
    }

    private static final class PassOf extends PaperOf {
        PassOf(int n, int a, List<Integer> trace) {
            super(n, a, trace);
        }

        @Override int goes(int x) {
            trace.add(40);
            return super.goes(x + 3);
        }

        @Override int tells(int x) {
            trace.add(41);
            return super.tells(x) * 3;
        }
    }

    private static class PriceOf extends PaperOf {
        PriceOf(int n, int a, List<Integer> trace) {
            super(n, a, trace);
        }

        @Override int binds(int x) {
            trace.add(50);
            return super.binds(x) - 7;
        }
    }

    private static class BoughtOf extends PriceOf {
        BoughtOf(int n, int a, List<Integer> trace) {
            super(n, a, trace);
        }

        @Override int counts(int x) {
            trace.add(60);
            return super.counts(x) * 5;
        }

        @Override int goes(int x) {
            trace.add(61);
            return 0 - super.goes(x);
        }
    }

    private static final class OwedOf extends BoughtOf {
        OwedOf(int n, int a, List<Integer> trace) {
            super(n, a, trace);
        }

        @Override int binds(int x) {
            trace.add(70);
            return super.binds(x + 1) ^ 9;
        }

        @Override int tells(int x) {
            trace.add(71);
            return super.tells(x) + goes(a);
        }
    }

    private static final class Book {
        Now now = new Now();
        private Now kept = null;
        private final List<Integer> tape = new ArrayList<>(), trace = new ArrayList<>();
        private final List<int[]> rows = new ArrayList<>();
        /** byte[], short[], int[], long[], boolean[], or null. */
        private final Object[] sheets = new Object[4];
        /** A row, {what, n} of a thing, or null. */
        private final Object[] shelves = new Object[4];

        private static boolean in(int v, int least, int most) {
            return least <= v && v <= most;
        }

        private static boolean there(List<?> list, int i) {
            return in(i, 0, list.size() - 1);
        }

        // -- 1

        public int weeks(int n) {
            if (!in(n, 1, 200)) return BAD;
            if (now.week + n > 1999) return STATE;
            for (int end = now.week + n; now.week < end;) {
                now.week++;
                aWeekComes();
            }
            return now.week;
        }

        private void aWeekComes() {
            for (Soul s : now.souls) {
                if (s.sickSince() != NONE && now.week - s.sickSince() == 6 && in(s.state, 0, 3)) s.state = 7;
            }
            for (Vessel v : now.ships) {
                if (v.comes != now.week) continue;
                boolean wasSick = false;
                for (int c : v.whoSailed) wasSick |= now.souls.get(c).wasSickAfter(v.sailed);
                for (int c : v.whoSailed) {
                    Soul s = now.souls.get(c);
                    if (s.state != 2) continue;
                    s.state = 3;
                    s.offTill = now.week + (wasSick ? 6 : 2);
                }
            }
            for (Soul s : now.souls) {
                if (s.state == 3 && s.offTill <= now.week) s.state = 4;
            }
        }

        private static boolean isName(int name) {
            if (name <= 0) return false;
            int letters = 0;
            for (int rest = name; rest > 0; rest /= 27) {
                if (rest % 27 == 0) return false;
                letters++;
            }
            return letters <= 6;
        }

        public int captive(int name, int who, int age, int week, int paid) {
            if (!isName(name) || who < 0 || who / 100 > 5 || who / 10 % 10 > 3 || who % 10 > 4) return BAD;
            if (!in(age, 1, 90) || !in(week, 0, 1999) || week > now.week || !in(paid, 1, 999)) return BAD;
            if (now.souls.size() == 16) return FULL;
            Soul s = new Soul();
            s.name = name;
            s.parish = who / 100;
            s.trade = who / 10 % 10;
            s.master = who % 10;
            s.age = age;
            s.taken = week;
            s.paid = paid;
            now.souls.add(s);
            return now.souls.size() - 1;
        }

        public int of(int captive, int what) {
            if (!there(now.souls, captive)) return BAD;
            Soul s = now.souls.get(captive);
            switch (what) {
                case 0: return s.name;
                case 1: return s.parish;
                case 2: return s.trade;
                case 3: return s.master;
                case 4: return s.taken;
                case 5: return s.paid;
                case 6: return s.state;
                case 7: return s.sickSince();
                case 8: return s.turned ? 1 : 0;
                case 9: return s.ageIn(now.week);
                case 10: return s.price;
                case 11: return s.legacy;
                case 12: return s.ship;
                case 13: return s.price != 0 && s.otherOrder ? 1 : 0;
                default: return BAD;
            }
        }

        public int sick(int captive, boolean is) {
            if (!there(now.souls, captive)) return BAD;
            Soul s = now.souls.get(captive);
            if (in(s.state, 4, 7)) return STATE;
            boolean was = s.sickSince() != NONE;
            if (was == is) return 0;
            now.moment++;
            if (is) s.sickness.add(new int[] {now.week, now.moment, -1});
            else s.sickness.get(s.sickness.size() - 1)[2] = now.moment;
            return 1;
        }

        public int turned(int captive, boolean is) {
            if (!there(now.souls, captive)) return BAD;
            boolean was = now.souls.get(captive).turned;
            now.souls.get(captive).turned = is;
            return was ? 1 : 0;
        }

        public int lose(int captive, int to) {
            if (!there(now.souls, captive) || !in(to, 5, 7)) return BAD;
            if (now.souls.get(captive).state != 0) return STATE;
            now.souls.get(captive).state = to;
            return 1;
        }

        public int master(int master, int port) {
            if (!in(master, 0, 4) || !in(port, 1, 4)) return BAD;
            int was = now.masterPort[master];
            now.masterPort[master] = port;
            return was;
        }

        // -- 2

        public int news(int captive, int weight) {
            if (captive != -1 && !there(now.souls, captive) || !in(weight, 1, 9)) return BAD;
            if (now.news.size() == 12) return FULL;
            now.news.add(new int[] {captive, weight, now.week});
            return now.news.size() - 1;
        }

        public int lag(int port, int n) {
            if (!in(port, 1, 4) || !in(n, 1, 20)) return BAD;
            int was = now.lag[port];
            now.lag[port] = n;
            return was;
        }

        public int premium(int trade, int n) {
            if (!in(trade, 0, 3) || !in(n, 0, 500)) return BAD;
            int was = now.premium[trade];
            now.premium[trade] = n;
            return was;
        }

        private int askOf(int captive, int week) {
            Soul s = now.souls.get(captive);
            int weight = 0;
            for (int[] n : now.news) {
                boolean isHeard = week >= n[2] + now.lag[now.masterPort[s.master]];
                if (isHeard && (n[0] == -1 || n[0] == captive)) weight += n[1];
            }
            return (s.paid + now.premium[s.trade]) * (100 + 10 * weight) / 100;
        }

        public int ask(int captive, int week) {
            return there(now.souls, captive) && in(week, 0, 1999) ? askOf(captive, week) : BAD;
        }

        // -- 3

        public int sound(int letter, int c) {
            if (!in(letter, 1, 26) || !in(c, 0, 5)) return BAD;
            int was = now.sound[letter];
            now.sound[letter] = c;
            return was;
        }

        private String keyOf(int name) {
            StringBuilder letters = new StringBuilder(), key = new StringBuilder();
            for (int rest = name; rest > 0; rest /= 27) letters.insert(0, now.sound[rest % 27]);
            for (int i = 0; i < letters.length(); i++) {
                char c = letters.charAt(i);
                if (c != '0' && (i == 0 || letters.charAt(i - 1) != c)) key.append(c);
            }
            return key.toString();
        }

        public int key(int name) {
            return isName(name) ? Integer.parseInt("0" + keyOf(name)) : BAD;
        }

        private List<Soul> soulsMeant(int name, int parish) {
            List<Soul> those = new ArrayList<>();
            for (Soul s : now.souls) {
                if ((parish == -1 || s.parish == parish) && keyOf(s.name).equals(keyOf(name))) those.add(s);
            }
            return those;
        }

        public int meant(int name, int parish) {
            if (!isName(name) || !in(parish, -1, 5)) return BAD;
            int bits = 0;
            for (Soul s : soulsMeant(name, parish)) bits += 1 << now.souls.indexOf(s);
            return bits;
        }

        public int question(int name, int parish) {
            if (!isName(name) || !in(parish, -1, 5)) return BAD;
            List<Soul> those = soulsMeant(name, parish);
            if (those.size() < 2) return NONE;
            int[] greatest = new int[4];
            for (int q = 0; q < 4; q++) {
                Map<Integer, Integer> many = new HashMap<>();
                for (Soul s : those) {
                    int answer = q == 0 ? s.parish : q == 1 ? s.trade : q == 2 ? s.master : s.ageIn(now.week) / 10;
                    greatest[q] = Math.max(greatest[q], many.merge(answer, 1, Integer::sum));
                }
            }
            int least = Arrays.stream(greatest).min().getAsInt();
            for (int q = 0; q < 4; q++) {
                if (greatest[q] == least) return q;
            }
            return BAD;
        }

        // -- 4

        public int alms(int parish, int amount) {
            if (!in(parish, 0, 5) || !in(amount, 1, 99)) return BAD;
            if (now.alms.size() == 24) return FULL;
            now.alms.add(amount);
            now.boxes.add(new int[] {parish, amount});
            return now.alms.size();
        }

        public int openBox(int parish, int keys, int found) {
            if (!in(parish, 0, 5) || !in(keys, 0, 7) || !in(found, 0, 9999)) return BAD;
            if (now.openings.size() == 12) return FULL;
            int came = 0, weekAhead = 0;
            for (int[] told : now.boxes) {
                if (told[0] == parish) came = told[1] < 0 ? 0 : came + told[1];
            }
            for (Opening o : now.openings) {
                if (o.parish == parish) weekAhead = o.week;
            }
            now.boxes.add(new int[] {parish, -1});
            now.openings.add(new Opening(parish, keys, found, now.week, came - found, weekAhead));
            now.chest += found;
            return now.openings.size() - 1;
        }

        public int lack(int opening) {
            return there(now.openings, opening) ? now.openings.get(opening).lack + 10000 : BAD;
        }

        public int shortSince(int parish) {
            if (!in(parish, 0, 5)) return BAD;
            for (Opening o : now.openings) {
                if (o.parish == parish && o.lack > 0) return o.weekAhead;
            }
            return NONE;
        }

        public int legacy(int amount) {
            if (!in(amount, 1, 9999)) return BAD;
            if (now.legacies.size() == 6) return FULL;
            now.legacies.add(new int[] {amount, amount});
            return now.legacies.size() - 1;
        }

        public int legacyOf(int legacy, int what) {
            if (!there(now.legacies, legacy) || !in(what, 0, 2)) return BAD;
            if (what < 2) return now.legacies.get(legacy)[what];
            int amiss = 0;
            for (Soul s : now.souls) {
                if (s.legacy == legacy && !mayBuy(legacy, s, now.week)) amiss += s.price;
            }
            return amiss;
        }

        // -- 5

        public int feed(long eight, int n) {
            if (!in(n, 1, 8)) return BAD;
            if (tape.size() + n > 250) return FULL;
            long rest = eight;
            for (int i = 0; i < n; i++) {
                tape.add((int) Math.floorMod(rest, 256L));
                rest = Math.floorDiv(rest, 256L);
            }
            return tape.size();
        }

        private static boolean isIn(int b, char least, char most) {
            return b >= least && b <= most;
        }

        /** The WORDS, NUMBERS and other bytes, and where each begins. */
        private void cut(List<String> tokens, List<Integer> places) {
            for (int i = 0; i < tape.size(); i++) {
                int b = tape.get(i);
                if (b == 32) continue;
                String ahead = tokens.isEmpty() ? "" : tokens.get(tokens.size() - 1);
                boolean goesOn = i > 0 && (isIn(b, 'a', 'z') && isIn(tape.get(i - 1), 'a', 'z')
                        || isIn(b, '0', '9') && isIn(tape.get(i - 1), '0', '9'));
                if (goesOn) {
                    tokens.set(tokens.size() - 1, ahead + (char) b);
                } else {
                    tokens.add("" + (char) b);
                    places.add(i);
                }
            }
        }

        private static boolean isNumber(String token, int most) {
            return token.matches("[0-9]{1,3}") && Integer.parseInt(token) <= most;
        }

        /** What a text awaits when it has come so far, by its states; "?" where no text goes on with a token. */
        private static String stateBehind(String state, String token, int open, int lines) {
            switch (state) {
                case "line": return lines < 9 && token.matches("rank|bar|left|proof") ? token : "?";
                case "rank": return isNumber(token, 9) ? "ranked" : "?";
                case "ranked": return token.equals("if") ? "one" : token.equals(";") ? "line" : "?";
                case "bar": return token.equals("if") ? "one" : "?";
                case "left": return isNumber(token, 5) ? "buys" : "?";
                case "buys": return token.equals("buys") ? "one" : "?";
                case "proof": return isNumber(token, 9) ? "end" : "?";
                case "end": return token.equals(";") ? "line" : "?";
                case "one":
                    if (token.equals("not") || token.equals("(") && open < 4) return "one";
                    if (token.matches("sick|turned")) return "behind";
                    return token.matches("age|weeks|trade|parish|paid|master") ? "sign" : "?";
                case "sign": return token.matches("[<=>]") ? "number" : "?";
                case "number": return isNumber(token, 999) ? "behind" : "?";
                default:
                    if (token.matches("and|or")) return "one";
                    if (token.equals(")") && open > 0) return "behind";
                    return token.equals(";") && open == 0 ? "line" : "?";
            }
        }

        public int read() {
            List<String> tokens = new ArrayList<>();
            List<Integer> places = new ArrayList<>();
            cut(tokens, places);
            int length = tape.size(), open = 0;
            tape.clear();
            String state = "line";
            List<Line> lines = new ArrayList<>();
            List<String> ofLine = new ArrayList<>();
            for (int i = 0; i < tokens.size(); i++) {
                String token = tokens.get(i);
                state = stateBehind(state, token, open, lines.size());
                if (state.equals("?")) return -100 - places.get(i);
                open += token.equals("(") ? 1 : token.equals(")") ? -1 : 0;
                if (!token.equals(";")) {
                    ofLine.add(token);
                    continue;
                }
                lines.add(lineOf(ofLine));
                ofLine = new ArrayList<>();
            }
            if (!state.equals("line")) return -100 - length;
            if (now.versions.size() == 8) return FULL;
            now.versions.add(new Version(now.week, lines));
            return now.versions.size() - 1;
        }

        private static Line lineOf(List<String> tokens) {
            int sort = List.of("rank", "bar", "left", "proof").indexOf(tokens.get(0));
            int n = sort == 1 ? NONE : Integer.parseInt(tokens.get(1));
            int from = sort == 1 ? 2 : Math.min(3, tokens.size());
            return new Line(sort, n, tokens.subList(from, tokens.size()));
        }

        public int version(int v, int what) {
            if (!there(now.versions, v)) return BAD;
            List<Line> lines = now.versions.get(v).lines;
            if (what == 0) return lines.size();
            if (what == 1) return now.versions.get(v).week;
            if (what >= 10 && what < 20 && there(lines, what - 10)) return lines.get(what - 10).sort;
            if (what >= 30 && what < 40 && there(lines, what - 30)) return lines.get(what - 30).n;
            return BAD;
        }

        private List<Line> rulesIn(int week) {
            List<Line> rules = new ArrayList<>();
            for (Version v : now.versions) {
                if (v.week <= week) rules = v.lines;
            }
            return rules;
        }

        private static List<List<String>> parted(List<String> tokens, String by) {
            List<List<String>> parts = new ArrayList<>();
            parts.add(new ArrayList<>());
            int open = 0;
            for (String token : tokens) {
                open += token.equals("(") ? 1 : token.equals(")") ? -1 : 0;
                if (open == 0 && token.equals(by)) parts.add(new ArrayList<>());
                else parts.get(parts.size() - 1).add(token);
            }
            return parts;
        }

        private boolean holds(List<String> cond, Soul s, int week) {
            if (cond.isEmpty()) return true;
            boolean any = false;
            for (List<String> part : parted(cond, "or")) {
                boolean all = true;
                for (List<String> one : parted(part, "and")) all &= holdsOne(one, s, week);
                any |= all;
            }
            return any;
        }

        private boolean holdsOne(List<String> one, Soul s, int week) {
            if (one.get(0).equals("not")) return !holdsOne(one.subList(1, one.size()), s, week);
            if (one.get(0).equals("(")) return holds(one.subList(1, one.size() - 1), s, week);
            if (one.get(0).equals("sick")) return s.sickSince() != NONE && s.sickSince() <= week;
            if (one.get(0).equals("turned")) return s.turned;
            int n = Integer.parseInt(one.get(2)), fact;
            switch (one.get(0)) {
                case "age": fact = s.ageIn(week); break;
                case "weeks": fact = s.weeksAt(week); break;
                case "trade": fact = s.trade; break;
                case "parish": fact = s.parish; break;
                case "paid": fact = s.paid; break;
                default: fact = s.master; break;
            }
            return one.get(1).equals("<") ? fact < n : one.get(1).equals("=") ? fact == n : fact > n;
        }

        private int rankOf(Soul s, int week) {
            for (Line l : rulesIn(week)) {
                if (l.sort == 0 && holds(l.cond, s, week)) return l.n;
            }
            return 9;
        }

        private boolean isBarred(Soul s, int week) {
            boolean is = false;
            for (Line l : rulesIn(week)) is |= l.sort == 1 && holds(l.cond, s, week);
            return is;
        }

        private boolean mayBuy(int legacy, Soul s, int week) {
            for (Line l : rulesIn(week)) {
                if (l.sort == 2 && l.n == legacy) return holds(l.cond, s, week);
            }
            return true;
        }

        public int rank(int captive, int week) {
            if (!there(now.souls, captive) || !in(week, 0, 1999)) return BAD;
            return rankOf(now.souls.get(captive), week);
        }

        public int barred(int captive, int week) {
            if (!there(now.souls, captive) || !in(week, 0, 1999)) return BAD;
            return isBarred(now.souls.get(captive), week) ? 1 : 0;
        }

        public int may(int legacy, int captive, int week) {
            if (!there(now.legacies, legacy) || !there(now.souls, captive) || !in(week, 0, 1999)) return BAD;
            return mayBuy(legacy, now.souls.get(captive), week) ? 1 : 0;
        }

        private int proofsOf(int captive) {
            List<Integer> parishes = new ArrayList<>();
            for (int[] p : now.proofs) {
                if (p[0] == captive && p[1] != -1 && !parishes.contains(p[1])) parishes.add(p[1]);
            }
            return parishes.size();
        }

        public int proof(int captive, int parish) {
            if (!there(now.souls, captive) || !in(parish, -1, 5)) return BAD;
            if (now.proofs.size() == 20) return FULL;
            now.proofs.add(new int[] {captive, parish});
            return proofsOf(captive);
        }

        // -- 6

        public int rate(int port, int a, int b, int v) {
            if (!in(port, 0, 4) || !in(a, 0, 2) || !in(b, 0, 2) || a == b || !in(v, 1, 3000)) return BAD;
            int was = now.rate[port][a][b];
            now.rate[port][a][b] = v;
            return was;
        }

        public int sails(int port, int other, int v) {
            if (!in(port, 0, 4) || !in(other, 0, 4) || port == other || !in(v, 0, 999)) return BAD;
            int was = now.sails[Math.min(port, other)][Math.max(port, other)];
            now.sails[Math.min(port, other)][Math.max(port, other)] = v;
            return was;
        }

        private int sailOf(int port, int other) {
            return now.sails[Math.min(port, other)][Math.max(port, other)];
        }

        /** All WAYS from where one ends so far to a PORT, by the PORTS' numbers. */
        private List<List<Integer>> waysOn(List<Integer> soFar, int to) {
            List<List<Integer>> all = new ArrayList<>();
            int last = soFar.get(soFar.size() - 1);
            if (last == to) {
                all.add(soFar);
                return all;
            }
            for (int next = 0; next < 5; next++) {
                if (next == last || soFar.contains(next) || sailOf(last, next) / 100 == 0) continue;
                List<Integer> on = new ArrayList<>(soFar);
                on.add(next);
                all.addAll(waysOn(on, to));
            }
            return all;
        }

        private long mostAlong(List<Integer> way, int at, int coin, long n, int b) {
            if (at == way.size()) return coin == b ? n : -1;
            long most = mostAlong(way, at + 1, coin, n, b);
            for (int to = 0; to < 3; to++) {
                long changed = n * now.rate[way.get(at)][coin][to] / 1000;
                if (to != coin) most = Math.max(most, mostAlong(way, at + 1, to, changed, b));
            }
            return most;
        }

        public int brought(int port, int a, int b, int n) {
            if (!in(port, 1, 4) || !in(a, 0, 2) || !in(b, 0, 2) || !in(n, 1, 99999)) return BAD;
            long most = NONE;
            for (List<Integer> way : waysOn(List.of(0), port)) most = Math.max(most, mostAlong(way, 0, a, n, b));
            return (int) most;
        }

        private int lostAlong(List<Integer> way, int n) {
            int left = n;
            for (int i = 1; i < way.size(); i++) {
                int hunters = sailOf(way.get(i - 1), way.get(i)) % 100;
                left -= left * hunters / 100 + (left * hunters % 100 > 0 ? 1 : 0);
            }
            return n - left;
        }

        private int weeksAlong(List<Integer> way) {
            int weeks = 0;
            for (int i = 1; i < way.size(); i++) weeks += sailOf(way.get(i - 1), way.get(i)) / 100;
            return weeks;
        }

        /** null: there is none. */
        private List<Integer> roadOf(int port, int n) {
            List<Integer> best = null;
            for (List<Integer> way : waysOn(List.of(port), 0)) {
                int more = best == null ? -1 : lostAlong(way, n) - lostAlong(best, n);
                if (more < 0 || more == 0 && weeksAlong(way) < weeksAlong(best)) best = way;
            }
            return best;
        }

        public int road(int port, int n, int what) {
            if (!in(port, 1, 4) || !in(n, 1, 99) || what < 0) return BAD;
            List<Integer> way = roadOf(port, n);
            if (way == null) return NONE;
            if (what == 0) return lostAlong(way, n);
            if (what == 1) return weeksAlong(way);
            return there(way, what - 2) ? way.get(what - 2) : NONE;
        }

        // -- 7

        private boolean canBeBought(int captive) {
            Soul s = now.souls.get(captive);
            int wanted = 0;
            for (Line l : rulesIn(now.week)) wanted = l.sort == 3 ? l.n : wanted;
            return s.state == 0 && !isBarred(s, now.week) && proofsOf(captive) >= wanted;
        }

        private int portOf(int captive) {
            return now.masterPort[now.souls.get(captive).master];
        }

        public int mole(int port, int coin) {
            if (!in(port, 1, 4) || !in(coin, 0, 99999)) return BAD;
            List<Integer> those = new ArrayList<>();
            for (int c = 0; c < now.souls.size(); c++) {
                if (portOf(c) == port && canBeBought(c) && those.size() < 12) those.add(c);
            }
            int[] asks = new int[those.size()], ranks = new int[those.size()];
            for (int i = 0; i < asks.length; i++) {
                asks[i] = askOf(those.get(i), now.week);
                ranks[i] = rankOf(now.souls.get(those.get(i)), now.week);
            }
            int best = 0;
            int[] worth = new int[11];
            for (int set = 1; set < 1 << asks.length; set++) {
                int[] its = worthOf(set, asks, ranks);
                if (-its[10] <= coin && Arrays.compare(its, worth) > 0) {
                    best = set;
                    worth = its;
                }
            }
            rows.clear();
            int bits = 0;
            for (int i = 0; i < asks.length; i++) {
                if ((best >> i & 1) == 0) continue;
                bits += 1 << those.get(i);
                rows.add(new int[] {those.get(i), asks[i]});
            }
            return bits;
        }

        /** How many there are of each RANK, and the sum of ASKS, below 0. */
        private static int[] worthOf(int set, int[] asks, int[] ranks) {
            int[] its = new int[11];
            for (int i = 0; i < asks.length; i++) {
                if ((set >> i & 1) == 0) continue;
                its[ranks[i]]++;
                its[10] -= asks[i];
            }
            return its;
        }

        public int row(int i, int what) {
            return there(rows, i) && in(what, 0, 1) ? rows.get(i)[what] : -9;
        }

        public int alterRow(int i, int what, int v) {
            int was = row(i, what);
            if (there(rows, i) && in(what, 0, 1)) rows.get(i)[what] = v;
            return was;
        }

        public int judge(int port, int coin) {
            if (!in(port, 1, 4) || !in(coin, 0, 99999)) return BAD;
            long sum = 0;
            for (int i = 0; i < rows.size(); i++) {
                int c = rows.get(i)[0], ask = rows.get(i)[1];
                sum += ask;
                boolean isRight = there(now.souls, c) && portOf(c) == port && canBeBought(c)
                        && (i == 0 || c > rows.get(i - 1)[0]) && ask == askOf(c, now.week) && sum <= coin;
                if (!isRight) return i + 1;
            }
            return 0;
        }

        public int buy(int captive, int from) {
            if (!there(now.souls, captive) || from != -1 && !there(now.legacies, from)) return BAD;
            Soul s = now.souls.get(captive);
            int ask = askOf(captive, now.week);
            if (!canBeBought(captive) || from != -1 && !mayBuy(from, s, now.week)) return STATE;
            if (ask > (from == -1 ? now.chest : now.legacies.get(from)[1])) return STATE;
            if (from == -1) now.chest -= ask;
            else now.legacies.get(from)[1] -= ask;
            s.legacy = from == -1 ? NONE : from;
            s.price = ask;
            s.state = 1;
            return ask;
        }

        public int twice(int captive) {
            if (!there(now.souls, captive)) return BAD;
            now.souls.get(captive).otherOrder = true;
            return now.souls.get(captive).price != 0 ? 1 : 0;
        }

        public int waits(int ask, int drop, int keep, int patience, int loss, int what) {
            if (!in(ask, 1, 9999) || !in(drop, 0, 999) || !in(keep, 0, 999) || !in(patience, 0, 6)) return BAD;
            if (!in(loss, 0, 9999) || !in(what, 0, 1)) return BAD;
            int[] costs = new int[patience + 2];
            for (int w = 0; w <= patience; w++) costs[w] = w * keep + Math.max(ask - w * drop, 1);
            costs[patience + 1] = (patience + 1) * keep + loss;
            int least = Arrays.stream(costs).min().getAsInt(), first = 0;
            while (costs[first] != least) first++;
            return what == 0 ? least : first;
        }

        // -- 8

        public int ship(int port, int pass) {
            if (!in(port, 1, 4) || !in(pass, 1, 16)) return BAD;
            if (now.ships.size() == 4) return FULL;
            Vessel v = new Vessel();
            v.port = port;
            v.pass = pass;
            now.ships.add(v);
            return now.ships.size() - 1;
        }

        private List<Integer> aboardOf(int ship) {
            List<Integer> those = new ArrayList<>();
            for (int c = 0; c < now.souls.size(); c++) {
                if (now.souls.get(c).ship == ship && now.souls.get(c).state == 1) those.add(c);
            }
            return those;
        }

        public int aboard(int captive, int ship) {
            if (!there(now.souls, captive) || !there(now.ships, ship)) return BAD;
            Soul s = now.souls.get(captive);
            Vessel v = now.ships.get(ship);
            if (s.state != 1 || s.ship != NONE || portOf(captive) != v.port) return STATE;
            if (v.sailed >= 0 || aboardOf(ship).size() >= v.pass) return STATE;
            s.ship = ship;
            return aboardOf(ship).size();
        }

        public int sail(int ship) {
            if (!there(now.ships, ship)) return BAD;
            Vessel v = now.ships.get(ship);
            List<Integer> those = aboardOf(ship);
            if (v.sailed >= 0 || those.isEmpty()) return STATE;
            List<Integer> way = roadOf(v.port, those.size());
            if (way == null) return NONE;
            now.moment++;
            v.sailed = now.moment;
            v.comes = now.week + weeksAlong(way);
            v.whoSailed.addAll(those);
            for (int c : those) now.souls.get(c).state = 2;
            return v.comes;
        }

        public int voyage(int cost, int brings, int rank) {
            if (!in(cost, 1, 999) || !in(brings, 1, 9) || !in(rank, 0, 3)) return BAD;
            if (now.voyages.size() == 8) return FULL;
            now.voyages.add(new int[] {cost, brings, rank});
            return now.voyages.size();
        }

        public int years(int coin, int what) {
            if (!in(coin, 0, 99999) || !in(what, -2, 3)) return BAD;
            int best = 0;
            int[] worth = new int[5];
            for (int set = 1; set < 1 << now.voyages.size(); set++) {
                int[] its = new int[5];
                for (int i = 0; i < now.voyages.size(); i++) {
                    if ((set >> i & 1) == 0) continue;
                    its[now.voyages.get(i)[2]] += now.voyages.get(i)[1];
                    its[4] -= now.voyages.get(i)[0];
                }
                if (-its[4] > coin || Arrays.compare(its, worth) <= 0) continue;
                best = set;
                worth = its;
            }
            return what == -1 ? best : what == -2 ? -worth[4] : worth[what];
        }

        // -- 9

        private static final int NULL = -11, OUTSIDE = -12, OTHER = -13, BELOW = -14;

        /** Of a SHEET, 2 where there is none. */
        int sortThere(int sheet) {
            return in(sheet, 0, 3) && sheets[sheet] != null ? sortOf(sheets[sheet]) : 2;
        }

        private static int sortOf(Object row) {
            return row instanceof byte[] ? 0 : row instanceof short[] ? 1 : row instanceof int[] ? 2
                    : row instanceof long[] ? 3 : 4;
        }

        public int sheet(int sheet, int sort, int n) {
            if (!in(sheet, 0, 3) || !in(sort, -1, 4) || n > 40) return BAD;
            if (n < 0 && sort != -1) return BELOW;
            switch (sort) {
                case 0: sheets[sheet] = new byte[n]; break;
                case 1: sheets[sheet] = new short[n]; break;
                case 2: sheets[sheet] = new int[n]; break;
                case 3: sheets[sheet] = new long[n]; break;
                case 4: sheets[sheet] = new boolean[n]; break;
                default: sheets[sheet] = null; break;
            }
            return 1;
        }

        public int put(int sheet, int i, int v) {
            if (!in(sheet, 0, 3)) return BAD;
            Object row = sheets[sheet];
            if (row == null) return NULL;
            if (!in(i, 0, java.lang.reflect.Array.getLength(row) - 1)) return OUTSIDE;
            switch (sortOf(row)) {
                case 0: ((byte[]) row)[i] = (byte) v; break;
                case 1: ((short[]) row)[i] = (short) v; break;
                case 2: ((int[]) row)[i] = v; break;
                case 3: ((long[]) row)[i] = v; break;
                default: ((boolean[]) row)[i] = v != 0; break;
            }
            return 1;
        }

        public int item(int sheet, int sort, int i) {
            if (!in(sheet, 0, 3) || !in(sort, 0, 4)) return BAD;
            Object row = sheets[sheet];
            if (row != null && sortOf(row) != sort) return OTHER;
            if (row == null) return NULL;
            if (!in(i, 0, java.lang.reflect.Array.getLength(row) - 1)) return OUTSIDE;
            switch (sort) {
                case 0: return ((byte[]) row)[i];
                case 1: return ((short[]) row)[i];
                case 2: return ((int[]) row)[i];
                case 3: return (int) ((long[]) row)[i];
                default: return ((boolean[]) row)[i] ? 1 : 0;
            }
        }

        public int comes(int sheet, int i) {
            if (!in(sheet, 0, 3)) return BAD;
            if (sheets[sheet] == null) return NULL;
            if (!(sheets[sheet] instanceof int[] row)) return OTHER;
            for (long k = i; k < i + 5L; k++) {
                if (k < 0 || k >= row.length) return OUTSIDE;
            }
            return captive(row[i], row[i + 1], row[i + 2], row[i + 3], row[i + 4]);
        }

        public int shelf(int shelf, int what, int n) {
            if (!in(shelf, 0, 3) || !in(what, 0, 5)) return BAD;
            boolean isThere = what == 0 ? there(now.alms, n) : what == 1 ? there(now.legacies, n)
                    : what == 2 ? there(now.ships, n) : what == 3 ? there(now.souls, n) : what == 5 || in(n, 0, 3);
            if (!isThere) return BAD;
            shelves[shelf] = what == 5 ? null : what == 4 ? sheets[n] : List.of(what, n);
            return 1;
        }

        /** null: nothing, or a row. */
        private PaperOf paperOn(int shelf) {
            if (!(shelves[shelf] instanceof List<?> thing)) return null;
            int what = (Integer) thing.get(0), n = (Integer) thing.get(1);
            if (what == 0) return there(now.alms, n) ? new AlmsOf(n, now.alms.get(n), trace) : null;
            if (what == 1) return there(now.legacies, n) ? new LeftOf(n, now.legacies.get(n)[1], trace) : null;
            if (what == 2) return there(now.ships, n) ? new PassOf(n, now.ships.get(n).pass, trace) : null;
            if (!there(now.souls, n)) return null;
            Soul s = now.souls.get(n);
            return s.state == 0 ? new PriceOf(n, s.paid, trace) : s.state == 1 ? new BoughtOf(n, s.paid, trace)
                    : in(s.state, 2, 3) ? new OwedOf(n, s.paid, trace) : null;
        }

        public int taken(int shelf, int as) {
            if (!in(shelf, 0, 3) || !in(as, 0, 6) && !in(as, 10, 14)) return BAD;
            Object row = shelves[shelf] instanceof List<?> ? null : shelves[shelf];
            if (row != null) return sortOf(row) == as - 10 ? java.lang.reflect.Array.getLength(row) : OTHER;
            PaperOf paper = paperOn(shelf);
            if (paper == null) return NULL;
            List<Class<?>> kinds = List.of(PaperOf.class, AlmsOf.class, LeftOf.class, PassOf.class, PriceOf.class,
                    BoughtOf.class, OwedOf.class);
            return as < 10 && kinds.get(as).isInstance(paper) ? paper.n : OTHER;
        }

        public int act(int shelf, int act, int x) {
            trace.clear();
            if (!in(shelf, 0, 3) || !in(act, 0, 3)) return 0;
            PaperOf paper = paperOn(shelf);
            if (paper == null) return 0;
            try {
                if (act < 2) return act == 0 ? paper.counts(x) : paper.binds(x);
                return act == 2 ? paper.goes(x) : paper.tells(x);
            } catch (ArithmeticException e) {
                return -15;
            }
        }

        public int trace(int i) {
            return there(trace, i) && i < 30 ? trace.get(i) : NONE;
        }

        public int many(int what) {
            int irregular = 0, inState = 0;
            for (Opening o : now.openings) irregular += o.keys == 7 ? 0 : 1;
            for (Soul s : now.souls) inState += s.state == what - 20 ? 1 : 0;
            int[] many = {now.week, now.souls.size(), now.news.size(), now.alms.size(), now.openings.size(),
                now.legacies.size(), now.versions.size(), now.proofs.size(), now.ships.size(), now.voyages.size(),
                rows.size(), tape.size(), Math.min(30, trace.size()), now.chest, irregular};
            return in(what, 0, 14) ? many[what] : in(what, 20, 27) ? inState : BAD;
        }

        public int keep() {
            kept = now.copy();
            return 1;
        }

        public int again() {
            if (kept == null) return NONE;
            now = kept.copy();
            return 1;
        }
    }
}
