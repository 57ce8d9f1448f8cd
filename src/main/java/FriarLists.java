/**
 * Friars who buy captives back from over the sea, as ../shared/DOC.md tells it.
 * This class looks at what the callers tell; the classes inside do the work.
 */
public final class FriarLists {
    public static final int BAD = -1, FULL = -2, NONE = -3, STATE = -4;

    private static final int NO_ROW = -9, NOTHING_THERE = -11, OUTSIDE = -12, OTHER_SORT = -13;
    private static final int SIZE_BELOW_0 = -14, PARTED_BY_0 = -15, FAULT_BASE = -100, LACK_BASE = 10000;

    private static final int LAST_WEEK = 1999, WEEKS_OF_A_YEAR = 52, WEEKS_TO_DIE = 6;
    private static final int PARISHES = 6, PORTS = 5, MASTERS = 5, TRADES = 4, COINS = 3, LETTERS = 26;
    private static final int MOST_COIN = 99999, MOST_COUNTED = 9999, ALL_KEYS = 7;
    private static final int MOST_NAME = 27 * 27 * 27 * 27 * 27 * 27 - 1;
    /** The classes of the letters a to z at first. */
    private static final String CLASSES = "01230120022455012423011202";

    /** Columns of a captive; the first of them, AGE and SHARED apart, are the numbers that of() takes. */
    private static final int NAME = 0, PARISH = 1, TRADE = 2, MASTER = 3, TAKEN = 4, PAID = 5, LOT = 6;
    private static final int SICK_SINCE = 7, TURNED = 8, AGE = 9, PRICE = 10, PAYER = 11, ON_SHIP = 12;
    private static final int SHARED = 13, HOME_ON = 14, CAPTIVE_COLUMNS = 15;

    /** The states of a captive. */
    private static final int HELD = 0, BOUGHT = 1, AT_SEA = 2, OFF = 3, HOME = 4, INLAND = 5, DEAD = 7;

    private static final int NEWS_OF = 0, NEWS_WEIGHT = 1, NEWS_TOLD = 2;
    private static final int BOX_SUM = 0, BOX_OPENED = 1;
    private static final int OPENED_PARISH = 0, OPENED_KEYS = 1, OPENED_LACK = 2, OPENED_SINCE = 3;
    private static final int LEFT_AMOUNT = 0, LEFT_REST = 1;
    private static final int PROOF_OF = 0, PROOF_BY = 1;
    private static final int SHIP_PORT = 0, SHIP_PASS = 1, SHIP_COMES = 2, SHIP_HAD_SICK = 3;
    private static final int VOYAGE_COST = 0, VOYAGE_BRINGS = 1, VOYAGE_RANK = 2;

    /** Rules: a version has lines, a line a row of steps (see TextReader). */
    private static final int MOST_LINES = 9, MOST_STEPS = 64, MOST_TAPE = 250, MOST_OPEN = 4;
    private static final int READ_ON = 0, LINE_COUNT = 1;
    private static final int LINE_SORT = 0, LINE_N = 1, LINE_FROM = 2, LINE_TO = 3;
    private static final int RANK_LINE = 0, BAR_LINE = 1, LEFT_LINE = 2, PROOF_LINE = 3;
    private static final int NO_RANK = 9;
    private static final int FACT_AGE = 0, FACT_WEEKS = 1, FACT_TRADE = 2;
    private static final int FACT_PARISH = 3, FACT_PAID = 4, FACT_MASTER = 5;
    private static final int STEP_SICK = 6, STEP_TURNED = 7, STEP_NOT = 8, STEP_AND = 9, STEP_OR = 10;
    private static final int LESS = 0, SAME = 1, MORE = 2;

    private static final int ROW_CAPTIVE = 0, ROW_ASK = 1, OFFER_RANK = 2, MOST_OFFERS = 12;
    private static final int MISSING = -1, SHEET_SORT = 0, SHEET_SIZE = 1, SHEET_ITEMS = 2, MOST_ITEMS = 40;
    private static final int SHELF_WHAT = 0, SHELF_N = 1, SHELF_SORT = 2;
    private static final int HOLDS_ALMS = 0, HOLDS_LEGACY = 1, HOLDS_SHIP = 2, HOLDS_CAPTIVE = 3, HOLDS_ROW = 4;
    private static final int HOLDS_NOTHING = 5;
    private static final int PAPER_KIND = 0, ALMS_KIND = 1, LEFT_KIND = 2, PASS_KIND = 3, PRICE_KIND = 4;
    private static final int BOUGHT_KIND = 5, OWED_KIND = 6;
    private static final int[] KIND_ABOVE = {-1, 0, 1, 0, 0, 4, 5};
    private static final int COUNTS = 0, BINDS = 1, GOES = 2, TELLS = 3, ACTS = 4, MOST_DEPTH = 40;
    /** Of each kind, and each act, the body: its own or the nearest above it. */
    private static final int[] BODIES = {
        10, 11, 12, 13,
        20, 11, 12, 13,
        20, 30, 12, 13,
        10, 11, 40, 41,
        10, 50, 12, 13,
        60, 50, 61, 13,
        60, 70, 61, 71,
    };

    private final Lists lists = new Lists();
    private final Lists kept = new Lists();
    private boolean isKept = false;
    private final TextReader reader = new TextReader();
    private final Ways ways = new Ways();
    private final Table offers = new Table(MOST_OFFERS, 3);
    private final Table rows = new Table(MOST_OFFERS, 2);
    private final Table sheets = new Table(4, SHEET_ITEMS + MOST_ITEMS);
    private final Table shelves = new Table(4, 3);
    private final Paper paper = new Paper();

    public FriarLists() {
        for (int i = 0; i < 4; i++) {
            sheets.set(i, SHEET_SORT, MISSING);
            shelves.set(i, SHELF_WHAT, HOLDS_NOTHING);
        }
    }

    // ---- weeks, captives

    public int weeks(int n) {
        if (!within(n, 1, 200)) return BAD;
        if (lists.now + n > LAST_WEEK) return STATE;
        for (int i = 0; i < n; i++) lists.nextWeek();
        return lists.now;
    }

    public int captive(int name, int who, int age, int week, int paid) {
        if (!isName(name) || !isWho(who) || !within(age, 1, 90)) return BAD;
        if (!within(week, 0, lists.now) || !within(paid, 1, 999)) return BAD;
        if (lists.captives.isFull()) return FULL;
        return lists.addCaptive(name, who, age, week, paid);
    }

    public int of(int captive, int what) {
        if (!lists.captives.has(captive) || !within(what, 0, 13)) return BAD;
        if (what == 9) return lists.ageNow(captive);
        if (what == 13) return lists.isPaidTwice(captive) ? 1 : 0;
        return lists.captives.get(captive, what);
    }

    public int sick(int captive, boolean is) {
        if (!lists.captives.has(captive)) return BAD;
        if (lists.captives.get(captive, LOT) >= HOME) return STATE;
        if (lists.isSick(captive) == is) return 0;
        lists.tellSick(captive, is);
        return 1;
    }

    public int turned(int captive, boolean is) {
        if (!lists.captives.has(captive)) return BAD;
        return lists.captives.change(captive, TURNED, is ? 1 : 0);
    }

    public int lose(int captive, int to) {
        if (!lists.captives.has(captive) || !within(to, INLAND, DEAD)) return BAD;
        if (lists.captives.get(captive, LOT) != HELD) return STATE;
        lists.captives.set(captive, LOT, to);
        return 1;
    }

    public int master(int master, int port) {
        if (!within(master, 0, MASTERS - 1) || !isFarPort(port)) return BAD;
        return lists.masters.change(master, 0, port);
    }

    // ---- news, asks

    public int news(int captive, int weight) {
        if (captive != -1 && !lists.captives.has(captive)) return BAD;
        if (!within(weight, 1, 9)) return BAD;
        if (lists.news.isFull()) return FULL;
        int number = lists.news.add();
        lists.news.set(number, NEWS_OF, captive);
        lists.news.set(number, NEWS_WEIGHT, weight);
        lists.news.set(number, NEWS_TOLD, lists.now);
        return number;
    }

    public int lag(int port, int n) {
        if (!isFarPort(port) || !within(n, 1, 20)) return BAD;
        return lists.lags.change(port, 0, n);
    }

    public int premium(int trade, int n) {
        if (!within(trade, 0, TRADES - 1) || !within(n, 0, 500)) return BAD;
        return lists.premiums.change(trade, 0, n);
    }

    public int ask(int captive, int week) {
        if (!lists.captives.has(captive) || !isWeek(week)) return BAD;
        return lists.askFor(captive, week);
    }

    // ---- names

    public int sound(int letter, int c) {
        if (!within(letter, 1, LETTERS) || !within(c, 0, 5)) return BAD;
        return lists.letters.change(letter, 0, c);
    }

    public int key(int name) {
        if (!isName(name)) return BAD;
        return lists.keyOf(name);
    }

    public int meant(int name, int parish) {
        if (!isName(name) || !isParishOrAny(parish)) return BAD;
        return lists.alike(name, parish);
    }

    public int question(int name, int parish) {
        if (!isName(name) || !isParishOrAny(parish)) return BAD;
        int bits = lists.alike(name, parish);
        if (Integer.bitCount(bits) < 2) return NONE;
        return lists.bestQuestion(bits);
    }

    // ---- boxes, legacies

    public int alms(int parish, int amount) {
        if (!isParish(parish) || !within(amount, 1, 99)) return BAD;
        if (lists.alms.isFull()) return FULL;
        lists.alms.set(lists.alms.add(), 0, amount);
        lists.boxes.set(parish, BOX_SUM, lists.boxes.get(parish, BOX_SUM) + amount);
        return lists.alms.count;
    }

    public int openBox(int parish, int keys, int found) {
        if (!isParish(parish) || !within(keys, 0, ALL_KEYS) || !within(found, 0, MOST_COUNTED)) return BAD;
        if (lists.openings.isFull()) return FULL;
        return lists.addOpening(parish, keys, found);
    }

    public int lack(int opening) {
        if (!lists.openings.has(opening)) return BAD;
        return lists.openings.get(opening, OPENED_LACK) + LACK_BASE;
    }

    public int shortSince(int parish) {
        if (!isParish(parish)) return BAD;
        return lists.weekOfFirstLack(parish);
    }

    public int legacy(int amount) {
        if (!within(amount, 1, MOST_COUNTED)) return BAD;
        if (lists.legacies.isFull()) return FULL;
        int number = lists.legacies.add();
        lists.legacies.set(number, LEFT_AMOUNT, amount);
        lists.legacies.set(number, LEFT_REST, amount);
        return number;
    }

    public int legacyOf(int legacy, int what) {
        if (!lists.legacies.has(legacy) || !within(what, 0, 2)) return BAD;
        return what == 2 ? lists.amissOf(legacy) : lists.legacies.get(legacy, what);
    }

    // ---- rules

    public int feed(long eight, int n) {
        if (!within(n, 1, 8)) return BAD;
        if (reader.tapeLength + n > MOST_TAPE) return FULL;
        for (int i = 0; i < n; i++) reader.takes((int) (eight >>> 8 * i & 255L));
        return reader.tapeLength;
    }

    public int read() {
        boolean isText = reader.readsText();
        reader.tapeLength = 0;
        if (!isText) return FAULT_BASE - reader.start;
        if (lists.versions.isFull()) return FULL;
        return lists.addVersion(reader);
    }

    public int version(int v, int what) {
        if (!lists.versions.has(v)) return BAD;
        int count = lists.versions.get(v, LINE_COUNT);
        if (what == 0) return count;
        if (what == 1) return lists.versions.get(v, READ_ON);
        if (within(what, 10, 9 + count)) return lists.lines.get(v * MOST_LINES + what - 10, LINE_SORT);
        if (within(what, 30, 29 + count)) return lists.lines.get(v * MOST_LINES + what - 30, LINE_N);
        return BAD;
    }

    public int rank(int captive, int week) {
        if (!lists.captives.has(captive) || !isWeek(week)) return BAD;
        return lists.rankOf(captive, week);
    }

    public int barred(int captive, int week) {
        if (!lists.captives.has(captive) || !isWeek(week)) return BAD;
        return lists.isBarred(captive, week) ? 1 : 0;
    }

    public int may(int legacy, int captive, int week) {
        if (!lists.legacies.has(legacy) || !lists.captives.has(captive) || !isWeek(week)) return BAD;
        return lists.mayBuy(legacy, captive, week) ? 1 : 0;
    }

    public int proof(int captive, int parish) {
        if (!lists.captives.has(captive) || !isParishOrAny(parish)) return BAD;
        if (lists.proofs.isFull()) return FULL;
        int number = lists.proofs.add();
        lists.proofs.set(number, PROOF_OF, captive);
        lists.proofs.set(number, PROOF_BY, parish);
        return lists.proofsThatCount(captive);
    }

    // ---- coins, sails

    public int rate(int port, int a, int b, int v) {
        if (!isPort(port) || !isCoin(a) || !isCoin(b) || a == b || !within(v, 1, 3000)) return BAD;
        return lists.rates.change(port, a * COINS + b, v);
    }

    public int sails(int port, int other, int v) {
        if (!isPort(port) || !isPort(other) || port == other || !within(v, 0, 999)) return BAD;
        lists.sails.set(other, port, v);
        return lists.sails.change(port, other, v);
    }

    public int brought(int port, int a, int b, int n) {
        if (!isFarPort(port) || !isCoin(a) || !isCoin(b) || !within(n, 1, MOST_COIN)) return BAD;
        return ways.mostBrought(lists, port, a, b, n);
    }

    public int road(int port, int n, int what) {
        if (!isFarPort(port) || !within(n, 1, 99) || what < 0) return BAD;
        if (!ways.findRoad(lists, port, n)) return NONE;
        if (what == 0) return n - ways.roadLeft;
        if (what == 1) return ways.roadWeeks;
        return ways.portOfRoad(what - 2);
    }

    // ---- buying

    public int mole(int port, int coin) {
        if (!isFarPort(port) || !within(coin, 0, MOST_COIN)) return BAD;
        gatherOffers(port);
        int bits = chooseOffers(coin);
        writeRows(bits);
        return bits;
    }

    private void gatherOffers(int port) {
        offers.clear();
        for (int c = 0; c < lists.captives.count && !offers.isFull(); c++) {
            if (lists.portOf(c) != port || !lists.canBeBought(c)) continue;
            int i = offers.add();
            offers.set(i, ROW_CAPTIVE, c);
            offers.set(i, ROW_ASK, lists.askFor(c, lists.now));
            offers.set(i, OFFER_RANK, lists.rankOf(c, lists.now));
        }
    }

    /** By rank, then by ask, each that the coin still pays: no other choice has more of a rank, or is cheaper. */
    private int chooseOffers(int coin) {
        int bits = 0, seen = 0, coinLeft = coin;
        for (int round = 0; round < offers.count; round++) {
            int i = firstOffer(seen);
            seen |= 1 << i;
            int ask = offers.get(i, ROW_ASK);
            if (ask > coinLeft) continue;
            coinLeft -= ask;
            bits |= 1 << offers.get(i, ROW_CAPTIVE);
        }
        return bits;
    }

    private int firstOffer(int seen) {
        int best = -1;
        for (int i = 0; i < offers.count; i++) {
            if ((seen >> i & 1) == 0 && (best < 0 || isAhead(i, best))) best = i;
        }
        return best;
    }

    private boolean isAhead(int i, int other) {
        int rank = offers.get(i, OFFER_RANK), otherRank = offers.get(other, OFFER_RANK);
        if (rank != otherRank) return rank < otherRank;
        return offers.get(i, ROW_ASK) < offers.get(other, ROW_ASK);
    }

    private void writeRows(int bits) {
        rows.clear();
        for (int i = 0; i < offers.count; i++) {
            int c = offers.get(i, ROW_CAPTIVE);
            if ((bits >> c & 1) == 0) continue;
            int row = rows.add();
            rows.set(row, ROW_CAPTIVE, c);
            rows.set(row, ROW_ASK, offers.get(i, ROW_ASK));
        }
    }

    public int row(int i, int what) {
        if (!rows.has(i) || !within(what, 0, 1)) return NO_ROW;
        return rows.get(i, what);
    }

    public int alterRow(int i, int what, int v) {
        if (!rows.has(i) || !within(what, 0, 1)) return NO_ROW;
        return rows.change(i, what, v);
    }

    public int judge(int port, int coin) {
        if (!isFarPort(port) || !within(coin, 0, MOST_COIN)) return BAD;
        int ahead = -1, sum = 0;
        for (int i = 0; i < rows.count; i++) {
            int c = rows.get(i, ROW_CAPTIVE);
            if (!lists.captives.has(c) || c <= ahead) return i + 1;
            if (lists.portOf(c) != port || !lists.canBeBought(c)) return i + 1;
            int ask = lists.askFor(c, lists.now);
            sum += ask;
            if (rows.get(i, ROW_ASK) != ask || sum > coin) return i + 1;
            ahead = c;
        }
        return 0;
    }

    public int buy(int captive, int from) {
        if (!lists.captives.has(captive) || (from != -1 && !lists.legacies.has(from))) return BAD;
        int ask = lists.askFor(captive, lists.now);
        if (!lists.canBeBought(captive) || !lists.canPay(from, captive, ask)) return STATE;
        lists.pay(from, captive, ask);
        return ask;
    }

    public int twice(int captive) {
        if (!lists.captives.has(captive)) return BAD;
        lists.captives.set(captive, SHARED, 1);
        return lists.isPaidTwice(captive) ? 1 : 0;
    }

    public int waits(int ask, int drop, int keep, int patience, int loss, int what) {
        if (!within(ask, 1, MOST_COUNTED) || !within(drop, 0, 999) || !within(keep, 0, 999)) return BAD;
        if (!within(patience, 0, 6) || !within(loss, 0, MOST_COUNTED) || !within(what, 0, 1)) return BAD;
        int least = ask, week = 0;
        for (int w = 1; w <= patience + 1; w++) {
            int last = w > patience ? loss : Math.max(1, ask - drop * w);
            int cost = keep * w + last;
            if (cost >= least) continue;
            least = cost;
            week = w;
        }
        return what == 0 ? least : week;
    }

    // ---- ships, voyages

    public int ship(int port, int pass) {
        if (!isFarPort(port) || !within(pass, 1, 16)) return BAD;
        if (lists.ships.isFull()) return FULL;
        int number = lists.ships.add();
        lists.ships.set(number, SHIP_PORT, port);
        lists.ships.set(number, SHIP_PASS, pass);
        lists.ships.set(number, SHIP_COMES, NONE);
        return number;
    }

    public int aboard(int captive, int ship) {
        if (!lists.captives.has(captive) || !lists.ships.has(ship)) return BAD;
        if (!lists.canGoAboard(captive, ship)) return STATE;
        lists.captives.set(captive, ON_SHIP, ship);
        return lists.countAboard(ship);
    }

    public int sail(int ship) {
        if (!lists.ships.has(ship)) return BAD;
        int aboard = lists.countAboard(ship);
        if (lists.hasSailed(ship) || aboard == 0) return STATE;
        if (!ways.findRoad(lists, lists.ships.get(ship, SHIP_PORT), aboard)) return NONE;
        lists.setSail(ship, lists.now + ways.roadWeeks);
        return lists.ships.get(ship, SHIP_COMES);
    }

    public int voyage(int cost, int brings, int rank) {
        if (!within(cost, 1, 999) || !within(brings, 1, 9) || !within(rank, 0, 3)) return BAD;
        if (lists.voyages.isFull()) return FULL;
        int number = lists.voyages.add();
        lists.voyages.set(number, VOYAGE_COST, cost);
        lists.voyages.set(number, VOYAGE_BRINGS, brings);
        lists.voyages.set(number, VOYAGE_RANK, rank);
        return lists.voyages.count;
    }

    public int years(int coin, int what) {
        if (!within(coin, 0, MOST_COIN) || !within(what, -2, 3)) return BAD;
        int bits = lists.bestVoyages(coin);
        if (what == -1) return bits;
        if (what == -2) return lists.costOf(bits);
        return (int) (lists.worthOf(bits) >> worthShift(what) & 255L);
    }

    // ---- the host

    public int sheet(int sheet, int sort, int n) {
        if (!sheets.hasRoom(sheet) || !within(sort, MISSING, 4) || n > MOST_ITEMS) return BAD;
        // a missing sheet has no size that could be below 0
        if (sort != MISSING && n < 0) return SIZE_BELOW_0;
        sheets.zero(sheet);
        sheets.set(sheet, SHEET_SORT, sort);
        sheets.set(sheet, SHEET_SIZE, sort == MISSING ? 0 : n);
        return 1;
    }

    public int put(int sheet, int i, int v) {
        if (!sheets.hasRoom(sheet)) return BAD;
        int sort = sheets.get(sheet, SHEET_SORT);
        if (sort == MISSING) return NOTHING_THERE;
        if (!within(i, 0, sheets.get(sheet, SHEET_SIZE) - 1)) return OUTSIDE;
        sheets.set(sheet, SHEET_ITEMS + i, narrowed(sort, v));
        return 1;
    }

    public int item(int sheet, int sort, int i) {
        if (!sheets.hasRoom(sheet) || !within(sort, 0, 4)) return BAD;
        int refusal = refusalOf(sheet, sort);
        if (refusal != 0) return refusal;
        if (!within(i, 0, sheets.get(sheet, SHEET_SIZE) - 1)) return OUTSIDE;
        return sheets.get(sheet, SHEET_ITEMS + i);
    }

    public int comes(int sheet, int i) {
        if (!sheets.hasRoom(sheet)) return BAD;
        int refusal = refusalOf(sheet, 2);
        if (refusal != 0) return refusal;
        if (!within(i, 0, sheets.get(sheet, SHEET_SIZE) - 5)) return OUTSIDE;
        int at = SHEET_ITEMS + i;
        return captive(sheets.get(sheet, at), sheets.get(sheet, at + 1), sheets.get(sheet, at + 2),
                sheets.get(sheet, at + 3), sheets.get(sheet, at + 4));
    }

    /** Why a sheet is no row of a sort: 0 if it is one. */
    private int refusalOf(int sheet, int sort) {
        int own = sheets.get(sheet, SHEET_SORT);
        if (own == MISSING) return NOTHING_THERE;
        return own == sort ? 0 : OTHER_SORT;
    }

    private static int narrowed(int sort, int v) {
        if (sort == 0) return (byte) v;
        if (sort == 1) return (short) v;
        if (sort == 4) return v == 0 ? 0 : 1;
        return v;
    }

    public int shelf(int shelf, int what, int n) {
        if (!shelves.hasRoom(shelf) || !isThing(what, n)) return BAD;
        shelves.set(shelf, SHELF_WHAT, what);
        shelves.set(shelf, SHELF_N, n);
        // a row on a shelf stays as it is when its sheet becomes another row: its sort and size are noted
        if (what == HOLDS_ROW) noteRow(shelf, n);
        return 1;
    }

    private boolean isThing(int what, int n) {
        switch (what) {
            case HOLDS_ALMS: return lists.alms.has(n);
            case HOLDS_LEGACY: return lists.legacies.has(n);
            case HOLDS_SHIP: return lists.ships.has(n);
            case HOLDS_CAPTIVE: return lists.captives.has(n);
            case HOLDS_ROW: return sheets.hasRoom(n);
            default: return what == HOLDS_NOTHING;
        }
    }

    private void noteRow(int shelf, int sheet) {
        int sort = sheets.get(sheet, SHEET_SORT);
        if (sort == MISSING) shelves.set(shelf, SHELF_WHAT, HOLDS_NOTHING);
        shelves.set(shelf, SHELF_N, sheets.get(sheet, SHEET_SIZE));
        shelves.set(shelf, SHELF_SORT, sort);
    }

    public int taken(int shelf, int as) {
        if (!shelves.hasRoom(shelf) || !(within(as, PAPER_KIND, OWED_KIND) || within(as, 10, 14))) return BAD;
        boolean isRow = shelves.get(shelf, SHELF_WHAT) == HOLDS_ROW, isPaper = takePaper(shelf);
        if (!isRow && !isPaper) return NOTHING_THERE;
        boolean fits = isRow ? shelves.get(shelf, SHELF_SORT) == as - 10 : paper.isOfKind(as);
        return fits ? shelves.get(shelf, SHELF_N) : OTHER_SORT;
    }

    public int act(int shelf, int act, int x) {
        paper.trace.clear();
        if (!shelves.hasRoom(shelf) || !within(act, COUNTS, TELLS) || !takePaper(shelf)) return 0;
        return paper.does(act, x);
    }

    /** Whether there is a paper on a shelf, not a row or nothing (any more): it is taken then. */
    private boolean takePaper(int shelf) {
        int n = shelves.get(shelf, SHELF_N);
        int kind = kindOf(shelves.get(shelf, SHELF_WHAT), n);
        if (kind < 0) return false;
        paper.becomes(kind, n, amountOf(kind, n));
        return true;
    }

    private int kindOf(int what, int n) {
        switch (what) {
            case HOLDS_ALMS: return lists.alms.has(n) ? ALMS_KIND : -1;
            case HOLDS_LEGACY: return lists.legacies.has(n) ? LEFT_KIND : -1;
            case HOLDS_SHIP: return lists.ships.has(n) ? PASS_KIND : -1;
            case HOLDS_CAPTIVE: return lists.captives.has(n) ? kindOfLot(lists.captives.get(n, LOT)) : -1;
            default: return -1;
        }
    }

    private static int kindOfLot(int lot) {
        switch (lot) {
            case HELD: return PRICE_KIND;
            case BOUGHT: return BOUGHT_KIND;
            case AT_SEA: return OWED_KIND;
            case OFF: return OWED_KIND;
            default: return -1;
        }
    }

    private int amountOf(int kind, int n) {
        switch (kind) {
            case ALMS_KIND: return lists.alms.get(n, 0);
            case LEFT_KIND: return lists.legacies.get(n, LEFT_REST);
            case PASS_KIND: return lists.ships.get(n, SHIP_PASS);
            default: return lists.captives.get(n, PAID);
        }
    }

    public int trace(int i) {
        return paper.trace.has(i) ? paper.trace.get(i, 0) : NONE;
    }

    public int many(int what) {
        if (within(what, 20, 27)) return lists.countInState(what - 20);
        switch (what) {
            case 0: return lists.now;
            case 1: return lists.captives.count;
            case 2: return lists.news.count;
            case 3: return lists.alms.count;
            case 4: return lists.openings.count;
            case 5: return lists.legacies.count;
            case 6: return lists.versions.count;
            case 7: return lists.proofs.count;
            case 8: return lists.ships.count;
            case 9: return lists.voyages.count;
            case 10: return rows.count;
            case 11: return reader.tapeLength;
            case 12: return paper.trace.count;
            case 13: return lists.chest;
            case 14: return lists.countIrregular();
            default: return BAD;
        }
    }

    // ---- kept

    public int keep() {
        kept.copyFrom(lists);
        isKept = true;
        return 1;
    }

    public int again() {
        if (!isKept) return NONE;
        lists.copyFrom(kept);
        return 1;
    }

    // ---- what a number may be

    private static boolean within(int v, int least, int most) {
        return v >= least && v <= most;
    }

    private static boolean isWeek(int week) {
        return within(week, 0, LAST_WEEK);
    }

    private static boolean isParish(int parish) {
        return within(parish, 0, PARISHES - 1);
    }

    private static boolean isParishOrAny(int parish) {
        return within(parish, -1, PARISHES - 1);
    }

    private static boolean isPort(int port) {
        return within(port, 0, PORTS - 1);
    }

    private static boolean isFarPort(int port) {
        return within(port, 1, PORTS - 1);
    }

    private static boolean isCoin(int coin) {
        return within(coin, 0, COINS - 1);
    }

    private static boolean isWho(int who) {
        return within(who, 0, 100 * PARISHES - 1) && who / 10 % 10 < TRADES && who % 10 < MASTERS;
    }

    /** No letter of a name is 0. */
    private static boolean isName(int name) {
        if (!within(name, 1, MOST_NAME)) return false;
        int rest = name;
        for (int i = 0; i < 6 && rest > 0; i++) {
            if (rest % 27 == 0) return false;
            rest /= 27;
        }
        return true;
    }

    /** How far up the number of captives of a rank stands in a voyage's worth: rank 0 weighs most. */
    private static int worthShift(int rank) {
        return 8 * (3 - rank);
    }

    /** Rows of numbers, of which the first count are in use; what is outside reads as 0 and is not written. */
    private static final class Table {
        private final int most;
        private final int width;
        private final int[] cells;
        int count = 0;

        Table(int most, int width) {
            this.most = Math.max(most, 0);
            this.width = Math.max(width, 0);
            this.cells = new int[this.most * this.width];
        }

        boolean has(int i) {
            return i >= 0 && i < count;
        }

        boolean hasRoom(int i) {
            return i >= 0 && i < most;
        }

        boolean isFull() {
            return count >= most;
        }

        /** The number of the new row, all 0; a full table gets none, and answers its last row. */
        int add() {
            if (isFull()) return count - 1;
            zero(count);
            count++;
            return count - 1;
        }

        void zero(int i) {
            for (int column = 0; column < width; column++) set(i, column, 0);
        }

        void clear() {
            count = 0;
        }

        int get(int i, int column) {
            if (i < 0 || i >= most || column < 0 || column >= width) return 0;
            return cells[i * width + column];
        }

        void set(int i, int column, int v) {
            if (i < 0 || i >= most || column < 0 || column >= width) return;
            cells[i * width + column] = v;
        }

        /** Sets, and answers what it was. */
        int change(int i, int column, int v) {
            int was = get(i, column);
            set(i, column, v);
            return was;
        }

        void copyFrom(Table other) {
            System.arraycopy(other.cells, 0, cells, 0, Math.min(cells.length, other.cells.length));
            count = other.count;
        }
    }

    /** All that keep() keeps, and what can be told from it. */
    private static final class Lists {
        int now = 0;
        int chest = 0;
        final Table captives = new Table(16, CAPTIVE_COLUMNS);
        final Table masters = new Table(MASTERS, 1);
        final Table news = new Table(12, 3);
        final Table lags = new Table(PORTS, 1);
        final Table premiums = new Table(TRADES, 1);
        final Table letters = new Table(LETTERS + 1, 1);
        final Table boxes = new Table(PARISHES, 2);
        final Table alms = new Table(24, 1);
        final Table openings = new Table(12, 4);
        final Table legacies = new Table(6, 2);
        final Table versions = new Table(8, 2);
        final Table lines = new Table(8 * MOST_LINES, 4);
        final Table steps = new Table(8 * MOST_STEPS, 1);
        final Table proofs = new Table(20, 2);
        final Table rates = new Table(PORTS, COINS * COINS);
        final Table sails = new Table(PORTS, PORTS);
        final Table ships = new Table(4, 4);
        final Table voyages = new Table(8, 3);

        Lists() {
            for (int i = 0; i < MASTERS; i++) masters.set(i, 0, 1);
            for (int i = 0; i < PORTS; i++) {
                lags.set(i, 0, 4);
                for (int j = 0; j < COINS * COINS; j++) rates.set(i, j, 1000);
            }
            for (int i = 1; i <= CLASSES.length(); i++) letters.set(i, 0, CLASSES.charAt(i - 1) - '0');
        }

        void copyFrom(Lists other) {
            now = other.now;
            chest = other.chest;
            captives.copyFrom(other.captives);
            masters.copyFrom(other.masters);
            news.copyFrom(other.news);
            lags.copyFrom(other.lags);
            premiums.copyFrom(other.premiums);
            letters.copyFrom(other.letters);
            boxes.copyFrom(other.boxes);
            alms.copyFrom(other.alms);
            openings.copyFrom(other.openings);
            legacies.copyFrom(other.legacies);
            versions.copyFrom(other.versions);
            lines.copyFrom(other.lines);
            steps.copyFrom(other.steps);
            proofs.copyFrom(other.proofs);
            rates.copyFrom(other.rates);
            sails.copyFrom(other.sails);
            ships.copyFrom(other.ships);
            voyages.copyFrom(other.voyages);
        }

        // -- weeks, captives

        void nextWeek() {
            now++;
            for (int c = 0; c < captives.count; c++) dieOfSickness(c);
            for (int s = 0; s < ships.count; s++) {
                if (ships.get(s, SHIP_COMES) == now) comeToTheMole(s);
            }
            for (int c = 0; c < captives.count; c++) {
                if (captives.get(c, LOT) == OFF && captives.get(c, HOME_ON) == now) captives.set(c, LOT, HOME);
            }
        }

        private void dieOfSickness(int c) {
            boolean isSickSoLong = isSick(c) && captives.get(c, SICK_SINCE) + WEEKS_TO_DIE == now;
            if (isSickSoLong && captives.get(c, LOT) < HOME) captives.set(c, LOT, DEAD);
        }

        private void comeToTheMole(int ship) {
            int homeOn = now + (ships.get(ship, SHIP_HAD_SICK) == 1 ? 6 : 2);
            for (int c = 0; c < captives.count; c++) {
                if (captives.get(c, LOT) != AT_SEA || captives.get(c, ON_SHIP) != ship) continue;
                captives.set(c, LOT, OFF);
                captives.set(c, HOME_ON, homeOn);
            }
        }

        int addCaptive(int name, int who, int age, int week, int paid) {
            int c = captives.add();
            captives.set(c, NAME, name);
            captives.set(c, PARISH, who / 100);
            captives.set(c, TRADE, who / 10 % 10);
            captives.set(c, MASTER, who % 10);
            captives.set(c, AGE, age);
            captives.set(c, TAKEN, week);
            captives.set(c, PAID, paid);
            captives.set(c, SICK_SINCE, NONE);
            captives.set(c, PAYER, NONE);
            captives.set(c, ON_SHIP, NONE);
            return c;
        }

        int ageNow(int c) {
            return factOf(FACT_AGE, c, now);
        }

        boolean isSick(int c) {
            return captives.get(c, SICK_SINCE) != NONE;
        }

        void tellSick(int c, boolean is) {
            captives.set(c, SICK_SINCE, is ? now : NONE);
            if (is && captives.get(c, LOT) == AT_SEA) ships.set(captives.get(c, ON_SHIP), SHIP_HAD_SICK, 1);
        }

        int countInState(int state) {
            int many = 0;
            for (int c = 0; c < captives.count; c++) {
                if (captives.get(c, LOT) == state) many++;
            }
            return many;
        }

        int portOf(int c) {
            return masters.get(captives.get(c, MASTER), 0);
        }

        // -- asks

        int askFor(int c, int week) {
            int sum = captives.get(c, PAID) + premiums.get(captives.get(c, TRADE), 0);
            int lag = lags.get(portOf(c), 0);
            int part = 100;
            for (int i = 0; i < news.count; i++) {
                int about = news.get(i, NEWS_OF);
                boolean isHeard = news.get(i, NEWS_TOLD) + lag <= week;
                if (isHeard && (about == c || about == -1)) part += 10 * news.get(i, NEWS_WEIGHT);
            }
            return sum * part / 100;
        }

        // -- names

        int keyOf(int name) {
            int key = 0, ahead = 0, unit = MOST_NAME / 27 + 1;
            int rest = name;
            for (int i = 0; i < 6 && unit > 0; i++) {
                int letter = rest / unit;
                rest %= unit;
                unit /= 27;
                int c = letter == 0 ? 0 : letters.get(letter, 0);
                if (c != 0 && c != ahead) key = key * 10 + c;
                ahead = c;
            }
            return key;
        }

        int alike(int name, int parish) {
            int key = keyOf(name), bits = 0;
            for (int c = 0; c < captives.count; c++) {
                boolean isThere = parish == -1 || captives.get(c, PARISH) == parish;
                if (isThere && keyOf(captives.get(c, NAME)) == key) bits |= 1 << c;
            }
            return bits;
        }

        int bestQuestion(int bits) {
            int best = 0, least = greatestGroup(bits, 0);
            for (int q = 1; q < 4; q++) {
                int greatest = greatestGroup(bits, q);
                if (greatest >= least) continue;
                best = q;
                least = greatest;
            }
            return best;
        }

        private int greatestGroup(int bits, int q) {
            int greatest = 0;
            for (int c = 0; c < captives.count; c++) {
                if ((bits >> c & 1) == 1) greatest = Math.max(greatest, groupOf(c, bits, q));
            }
            return greatest;
        }

        private int groupOf(int c, int bits, int q) {
            int many = 0;
            for (int other = 0; other < captives.count; other++) {
                if ((bits >> other & 1) == 1 && answerTo(q, other) == answerTo(q, c)) many++;
            }
            return many;
        }

        private int answerTo(int q, int c) {
            switch (q) {
                case 0: return captives.get(c, PARISH);
                case 1: return captives.get(c, TRADE);
                case 2: return captives.get(c, MASTER);
                default: return ageNow(c) / 10;
            }
        }

        // -- boxes, legacies

        int addOpening(int parish, int keys, int found) {
            int number = openings.add();
            openings.set(number, OPENED_PARISH, parish);
            openings.set(number, OPENED_KEYS, keys);
            openings.set(number, OPENED_LACK, boxes.get(parish, BOX_SUM) - found);
            openings.set(number, OPENED_SINCE, boxes.get(parish, BOX_OPENED));
            boxes.set(parish, BOX_SUM, 0);
            boxes.set(parish, BOX_OPENED, now);
            chest += found;
            return number;
        }

        int weekOfFirstLack(int parish) {
            for (int i = 0; i < openings.count; i++) {
                boolean isOfParish = openings.get(i, OPENED_PARISH) == parish;
                if (isOfParish && openings.get(i, OPENED_LACK) > 0) return openings.get(i, OPENED_SINCE);
            }
            return NONE;
        }

        int countIrregular() {
            int many = 0;
            for (int i = 0; i < openings.count; i++) {
                if (openings.get(i, OPENED_KEYS) != ALL_KEYS) many++;
            }
            return many;
        }

        int amissOf(int legacy) {
            int sum = 0;
            for (int c = 0; c < captives.count; c++) {
                if (captives.get(c, PAYER) == legacy && !mayBuy(legacy, c, now)) sum += captives.get(c, PRICE);
            }
            return sum;
        }

        // -- rules

        int addVersion(TextReader text) {
            int v = versions.add();
            versions.set(v, READ_ON, now);
            versions.set(v, LINE_COUNT, text.lines.count);
            int firstStep = v * MOST_STEPS;
            for (int i = 0; i < text.lines.count; i++) {
                int line = v * MOST_LINES + i;
                lines.set(line, LINE_SORT, text.lines.get(i, LINE_SORT));
                lines.set(line, LINE_N, text.lines.get(i, LINE_N));
                lines.set(line, LINE_FROM, firstStep + text.lines.get(i, LINE_FROM));
                lines.set(line, LINE_TO, firstStep + text.lines.get(i, LINE_TO));
            }
            for (int i = 0; i < text.steps.count; i++) steps.set(firstStep + i, 0, text.steps.get(i, 0));
            return v;
        }

        /** The version that rules in a week; -1 without. */
        private int rulesOf(int week) {
            int v = -1;
            for (int i = 0; i < versions.count; i++) {
                if (versions.get(i, READ_ON) <= week) v = i;
            }
            return v;
        }

        private int firstLine(int v) {
            return v < 0 ? 0 : v * MOST_LINES;
        }

        /** The line behind the last one of a version. */
        private int endOfLines(int v) {
            return v < 0 ? 0 : v * MOST_LINES + versions.get(v, LINE_COUNT);
        }

        int rankOf(int c, int week) {
            int v = rulesOf(week);
            for (int i = firstLine(v); i < endOfLines(v); i++) {
                if (lines.get(i, LINE_SORT) == RANK_LINE && holds(i, c, week)) return lines.get(i, LINE_N);
            }
            return NO_RANK;
        }

        boolean isBarred(int c, int week) {
            int v = rulesOf(week);
            for (int i = firstLine(v); i < endOfLines(v); i++) {
                if (lines.get(i, LINE_SORT) == BAR_LINE && holds(i, c, week)) return true;
            }
            return false;
        }

        boolean mayBuy(int legacy, int c, int week) {
            int v = rulesOf(week);
            for (int i = firstLine(v); i < endOfLines(v); i++) {
                boolean isOfLegacy = lines.get(i, LINE_SORT) == LEFT_LINE && lines.get(i, LINE_N) == legacy;
                if (isOfLegacy) return holds(i, c, week);
            }
            return true;
        }

        private int proofsWanted() {
            int v = rulesOf(now), wanted = 0;
            for (int i = firstLine(v); i < endOfLines(v); i++) {
                if (lines.get(i, LINE_SORT) == PROOF_LINE) wanted = lines.get(i, LINE_N);
            }
            return wanted;
        }

        int proofsThatCount(int c) {
            int parishes = 0;
            for (int i = 0; i < proofs.count; i++) {
                int by = proofs.get(i, PROOF_BY);
                if (proofs.get(i, PROOF_OF) == c && by >= 0) parishes |= 1 << by;
            }
            return Integer.bitCount(parishes);
        }

        /** Whether the condition of a line holds: its steps push and join truths, the latest in the lowest bit. */
        private boolean holds(int line, int c, int week) {
            int truths = 1;
            for (int i = lines.get(line, LINE_FROM); i < lines.get(line, LINE_TO); i++) {
                int step = steps.get(i, 0);
                int last = truths & 1, under = truths >>> 1;
                switch (step & 15) {
                    case STEP_NOT: truths ^= 1; break;
                    case STEP_AND: truths = last == 1 ? under : under & ~1; break;
                    case STEP_OR: truths = under | last; break;
                    default: truths = truths << 1 | (isTrue(step, c, week) ? 1 : 0); break;
                }
            }
            return (truths & 1) == 1;
        }

        private boolean isTrue(int step, int c, int week) {
            int kind = step & 15;
            if (kind == STEP_SICK) return isSick(c) && captives.get(c, SICK_SINCE) <= week;
            if (kind == STEP_TURNED) return captives.get(c, TURNED) == 1;
            int fact = factOf(kind, c, week), n = step >> 6;
            switch (step >> 4 & 3) {
                case LESS: return fact < n;
                case SAME: return fact == n;
                default: return fact > n;
            }
        }

        /** Ahead of the week on which they were taken nobody is younger than told. */
        private int factOf(int fact, int c, int week) {
            int weeksSince = Math.max(0, week - captives.get(c, TAKEN));
            switch (fact) {
                case FACT_AGE: return captives.get(c, AGE) + weeksSince / WEEKS_OF_A_YEAR;
                case FACT_WEEKS: return weeksSince;
                case FACT_TRADE: return captives.get(c, TRADE);
                case FACT_PARISH: return captives.get(c, PARISH);
                case FACT_PAID: return captives.get(c, PAID);
                default: return captives.get(c, MASTER);
            }
        }

        // -- buying

        boolean canBeBought(int c) {
            if (captives.get(c, LOT) != HELD || isBarred(c, now)) return false;
            return proofsThatCount(c) >= proofsWanted();
        }

        boolean canPay(int from, int c, int ask) {
            if (from == -1) return chest >= ask;
            return mayBuy(from, c, now) && legacies.get(from, LEFT_REST) >= ask;
        }

        void pay(int from, int c, int ask) {
            if (from == -1) {
                chest -= ask;
            } else {
                legacies.set(from, LEFT_REST, legacies.get(from, LEFT_REST) - ask);
                captives.set(c, PAYER, from);
            }
            captives.set(c, LOT, BOUGHT);
            captives.set(c, PRICE, ask);
        }

        /** An ask is never 0: who has a price was bought. */
        boolean isPaidTwice(int c) {
            return captives.get(c, PRICE) > 0 && captives.get(c, SHARED) == 1;
        }

        // -- ships, voyages

        boolean hasSailed(int ship) {
            return ships.get(ship, SHIP_COMES) != NONE;
        }

        private boolean isAboard(int c, int ship) {
            return captives.get(c, LOT) == BOUGHT && captives.get(c, ON_SHIP) == ship;
        }

        /** Who died aboard is not counted. */
        int countAboard(int ship) {
            int many = 0;
            for (int c = 0; c < captives.count; c++) {
                if (isAboard(c, ship)) many++;
            }
            return many;
        }

        boolean canGoAboard(int c, int ship) {
            boolean isFree = captives.get(c, LOT) == BOUGHT && captives.get(c, ON_SHIP) == NONE;
            if (!isFree || hasSailed(ship) || portOf(c) != ships.get(ship, SHIP_PORT)) return false;
            return countAboard(ship) < ships.get(ship, SHIP_PASS);
        }

        void setSail(int ship, int comesOn) {
            ships.set(ship, SHIP_COMES, comesOn);
            for (int c = 0; c < captives.count; c++) {
                if (!isAboard(c, ship)) continue;
                captives.set(c, LOT, AT_SEA);
                if (isSick(c)) ships.set(ship, SHIP_HAD_SICK, 1);
            }
        }

        int costOf(int bits) {
            int cost = 0;
            for (int i = 0; i < voyages.count; i++) {
                if ((bits >> i & 1) == 1) cost += voyages.get(i, VOYAGE_COST);
            }
            return cost;
        }

        /** How many a set brings of each rank, in one number: the greater the better. */
        long worthOf(int bits) {
            long worth = 0;
            for (int i = 0; i < voyages.count; i++) {
                if ((bits >> i & 1) == 0) continue;
                worth += (long) voyages.get(i, VOYAGE_BRINGS) << worthShift(voyages.get(i, VOYAGE_RANK));
            }
            return worth;
        }

        int bestVoyages(int coin) {
            int best = 0, cost = 0;
            long worth = 0;
            for (int bits = 1; bits < 1 << voyages.count; bits++) {
                int nextCost = costOf(bits);
                long next = worthOf(bits);
                if (nextCost > coin || next < worth || (next == worth && nextCost >= cost)) continue;
                best = bits;
                cost = nextCost;
                worth = next;
            }
            return best;
        }
    }

    /** Looks through all ways between the ports. */
    private static final class Ways {
        private final int[] way = new int[PORTS];
        private final int[] roadPorts = new int[PORTS];
        private int roadLength = 0;
        int roadLeft = 0;
        int roadWeeks = 0;
        private final Table arrived = new Table(PORTS, COINS);
        private final Table changed = new Table(PORTS, COINS);
        private int most = NONE;

        boolean findRoad(Lists lists, int port, int n) {
            roadLength = 0;
            walkTo(lists, port, 0, n, 0, 0);
            return roadLength > 0;
        }

        int portOfRoad(int i) {
            return i >= 0 && i < roadLength && i < roadPorts.length ? roadPorts[i] : NONE;
        }

        private void walkTo(Lists lists, int port, int depth, int left, int weeks, int gone) {
            if (depth < 0 || depth >= way.length) return;
            way[depth] = port;
            if (port == 0) takeIfBetter(depth + 1, left, weeks);
            else walkOn(lists, port, depth + 1, left, weeks, gone | 1 << port);
        }

        /** Ports are tried by their numbers, so the first of several ways that are as good stays. */
        private void walkOn(Lists lists, int port, int depth, int left, int weeks, int gone) {
            for (int next = 0; next < PORTS; next++) {
                int sail = lists.sails.get(port, next);
                if (sail < 100 || (gone >> next & 1) == 1) continue;
                int lost = (left * (sail % 100) + 99) / 100;
                walkTo(lists, next, depth, left - lost, weeks + sail / 100, gone);
            }
        }

        private void takeIfBetter(int length, int left, int weeks) {
            boolean isBetter = left > roadLeft || (left == roadLeft && weeks < roadWeeks);
            if (roadLength > 0 && !isBetter) return;
            roadLength = length;
            roadLeft = left;
            roadWeeks = weeks;
            System.arraycopy(way, 0, roadPorts, 0, PORTS);
        }

        int mostBrought(Lists lists, int port, int a, int b, int n) {
            most = NONE;
            arrived.zero(0);
            arrived.set(0, a, n);
            carryTo(lists, 0, 0, port, b, 0);
            return most;
        }

        private void carryTo(Lists lists, int port, int depth, int to, int b, int gone) {
            if (depth >= PORTS) return;
            for (int coin = 0; coin < COINS; coin++) changed.set(depth, coin, mostOf(lists, port, depth, coin));
            if (port == to) most = Math.max(most, changed.get(depth, b));
            else carryOn(lists, port, depth, to, b, gone | 1 << port);
        }

        private void carryOn(Lists lists, int port, int depth, int to, int b, int gone) {
            for (int next = 0; next < PORTS; next++) {
                if (lists.sails.get(port, next) < 100 || (gone >> next & 1) == 1) continue;
                for (int coin = 0; coin < COINS; coin++) arrived.set(depth + 1, coin, changed.get(depth, coin));
                carryTo(lists, next, depth + 1, to, b, gone);
            }
        }

        /** The most of a coin that a port has for what arrived, each sort of which is the most of it, too. */
        private int mostOf(Lists lists, int port, int depth, int coin) {
            int best = arrived.get(depth, coin);
            for (int from = 0; from < COINS; from++) {
                if (from == coin) continue;
                long got = (long) arrived.get(depth, from) * lists.rates.get(port, from * COINS + coin) / 1000;
                best = Math.max(best, (int) got);
            }
            return best;
        }
    }

    /**
     * Reads the tape as a text. A condition becomes a row of steps, each behind the steps that it joins:
     * the lowest 4 bits are a fact (0 to 5) or STEP_SICK and so on; of a fact the next 2 are the sign, the rest N.
     */
    private static final class TextReader {
        private final int[] tape = new int[MOST_TAPE];
        int tapeLength = 0;
        final Table lines = new Table(MOST_LINES, 4);
        final Table steps = new Table(MOST_STEPS, 1);
        /** Where the word, number or other byte begins that is looked at: behind what is no text, the fault. */
        int start = 0;
        private int end = 0;

        void takes(int b) {
            if (tapeLength < 0 || tapeLength >= tape.length) return;
            tape[tapeLength] = b;
            tapeLength++;
        }

        boolean readsText() {
            lines.clear();
            steps.clear();
            end = 0;
            lookOn();
            for (int i = 0; i < MOST_LINES && start < tapeLength; i++) {
                if (!readsLine()) return false;
            }
            return start >= tapeLength;
        }

        /** Looks at the next word, number or other byte: from start to end, which are the same where none is left. */
        private void lookOn() {
            int length = Math.min(tapeLength, tape.length);
            start = Math.max(end, 0);
            while (start < length && tape[start] == ' ') start++;
            end = start;
            if (start >= length) return;
            int first = tape[start];
            end++;
            boolean isWord = first >= 'a' && first <= 'z', isNumber = first >= '0' && first <= '9';
            if (!isWord && !isNumber) return;
            int least = isWord ? 'a' : '0', greatest = isWord ? 'z' : '9';
            while (end < length && tape[end] >= least && tape[end] <= greatest) end++;
        }

        private boolean isAt(String word) {
            if (end - start != word.length() || start < 0 || end > tape.length) return false;
            for (int i = 0; i < word.length(); i++) {
                if (tape[start + i] != word.charAt(i)) return false;
            }
            return true;
        }

        /** Goes on behind a word or sign, if it is there. */
        private boolean passes(String word) {
            if (!isAt(word)) return false;
            lookOn();
            return true;
        }

        /** A number of 3 digits at most and no greater than told; -1 if there is none. */
        private int readsNumber(int greatest) {
            if (end <= start || end - start > 3 || start < 0 || end > tape.length) return -1;
            int n = 0;
            for (int i = start; i < end; i++) {
                if (tape[i] < '0' || tape[i] > '9') return -1;
                n = n * 10 + tape[i] - '0';
            }
            if (n > greatest) return -1;
            lookOn();
            return n;
        }

        private boolean readsLine() {
            int sort = readsSort();
            if (sort < 0) return false;
            int n = sort == BAR_LINE ? NONE : readsNumber(sort == LEFT_LINE ? 5 : 9);
            if (n == -1 || (sort == LEFT_LINE && !passes("buys")) || (sort == BAR_LINE && !isAt("if"))) return false;
            int line = lines.add();
            lines.set(line, LINE_SORT, sort);
            lines.set(line, LINE_N, n);
            lines.set(line, LINE_FROM, steps.count);
            boolean hasCondition = sort == LEFT_LINE || (sort != PROOF_LINE && passes("if"));
            if (hasCondition && !readsCondition(0)) return false;
            lines.set(line, LINE_TO, steps.count);
            return passes(";");
        }

        private int readsSort() {
            return passes("rank") ? RANK_LINE : passes("bar") ? BAR_LINE
                    : passes("left") ? LEFT_LINE : passes("proof") ? PROOF_LINE : -1;
        }

        private boolean readsCondition(int open) {
            for (int i = 0; i < MOST_TAPE; i++) {
                if (!readsOne(open)) return false;
                for (int j = 0; j < MOST_TAPE && passes("and"); j++) {
                    if (!readsOne(open)) return false;
                    addStep(STEP_AND);
                }
                if (i > 0) addStep(STEP_OR);
                if (!passes("or")) return true;
            }
            return false;
        }

        private boolean readsOne(int open) {
            boolean isNot = false;
            for (int i = 0; i < MOST_TAPE && passes("not"); i++) isNot = !isNot;
            if (isAt("(")) {
                if (open >= MOST_OPEN) return false;
                lookOn();
                if (!readsCondition(open + 1) || !passes(")")) return false;
            } else {
                int step = passes("sick") ? STEP_SICK : passes("turned") ? STEP_TURNED : readsFact();
                if (step < 0) return false;
                addStep(step);
            }
            if (isNot) addStep(STEP_NOT);
            return true;
        }

        private int readsFact() {
            int fact = passes("age") ? FACT_AGE : passes("weeks") ? FACT_WEEKS
                    : passes("trade") ? FACT_TRADE : passes("parish") ? FACT_PARISH
                    : passes("paid") ? FACT_PAID : passes("master") ? FACT_MASTER : -1;
            if (fact < 0) return -1;
            int sign = passes("<") ? LESS : passes("=") ? SAME : passes(">") ? MORE : -1;
            if (sign < 0) return -1;
            int n = readsNumber(999);
            return n < 0 ? -1 : n << 6 | sign << 4 | fact;
        }

        /** There is room for all steps of a tape: with what must part it from the next each takes 4 bytes or more. */
        private void addStep(int step) {
            if (steps.isFull()) return;
            steps.set(steps.count, 0, step);
            steps.count++;
        }
    }

    /** A paper of a kind. Bodies call one another, by the paper's own kind or (super) by a kind above their own. */
    private static final class Paper {
        private int kind = 0;
        private int number = 0;
        private int amount = 0;
        private boolean isParted = false;
        final Table trace = new Table(30, 1);

        void becomes(int newKind, int n, int a) {
            kind = newKind;
            number = n;
            amount = a;
        }

        boolean isOfKind(int other) {
            int k = kind;
            for (int i = 0; i < KIND_ABOVE.length && k >= 0 && k < KIND_ABOVE.length; i++) {
                if (k == other) return true;
                k = KIND_ABOVE[k];
            }
            return false;
        }

        int does(int act, int x) {
            isParted = false;
            int answer = runs(kind, act, x, 0);
            return isParted ? PARTED_BY_0 : answer;
        }

        /** Runs the body that an act has in a kind. No paper of the document goes as deep as the guard. */
        private int runs(int from, int act, int x, int depth) {
            int place = from * ACTS + act;
            if (depth > MOST_DEPTH || place < 0 || place >= BODIES.length) return 0;
            int body = BODIES[place];
            if (!trace.isFull()) trace.set(trace.add(), 0, body);
            return answers(body, x, depth + 1);
        }

        private int answers(int body, int x, int depth) {
            switch (body) {
                case 10: return x + number;
                case 11: return runs(kind, COUNTS, x, depth) * 2;
                case 12: return parts(x, amount - number);
                case 13: return runs(kind, BINDS, x, depth) - amount;
                case 20: return runs(PAPER_KIND, COUNTS, x, depth) + amount;
                case 30: return runs(ALMS_KIND, BINDS, x, depth) ^ runs(kind, COUNTS, 1, depth);
                case 40: return runs(PAPER_KIND, GOES, x + 3, depth);
                case 41: return runs(PAPER_KIND, TELLS, x, depth) * 3;
                case 50: return runs(PAPER_KIND, BINDS, x, depth) - 7;
                case 60: return runs(PRICE_KIND, COUNTS, x, depth) * 5;
                case 61: return 0 - runs(PRICE_KIND, GOES, x, depth);
                case 70: return runs(BOUGHT_KIND, BINDS, x + 1, depth) ^ 9;
                case 71: return runs(BOUGHT_KIND, TELLS, x, depth) + runs(kind, GOES, amount, depth);
                default: return 0;
            }
        }

        /** Nothing runs behind a parting by 0: in no paper is there a body that calls another one after goes. */
        private int parts(int x, int by) {
            if (by == 0) {
                isParted = true;
                return 0;
            }
            return x / by;
        }
    }
}
