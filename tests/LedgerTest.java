import java.util.ArrayList;
import java.util.List;
import java.util.Random;

/** Long runs of calls at random, against a plain ledger of people, ships, boxes and legacies that is kept beside. */
public final class LedgerTest {
    private static final Random dice = new Random(1492);
    private static int wrong = 0;
    private static int asked = 0;

    private static final class Person {
        int name, parish, trade, master, age, taken, paid, state, price, since = -3, legacy = -3, ship = -3, off = -1;
        boolean turned, told;
        final List<Integer> proofs = new ArrayList<>();

        Person copy() {
            Person p = new Person();
            p.name = name;
            p.parish = parish;
            p.trade = trade;
            p.master = master;
            p.age = age;
            p.taken = taken;
            p.paid = paid;
            p.state = state;
            p.price = price;
            p.since = since;
            p.legacy = legacy;
            p.ship = ship;
            p.off = off;
            p.turned = turned;
            p.told = told;
            p.proofs.addAll(proofs);
            return p;
        }
    }

    private static final class Ship {
        int port, pass, comes = -1;
        boolean hadSick;

        Ship copy() {
            Ship s = new Ship();
            s.port = port;
            s.pass = pass;
            s.comes = comes;
            s.hadSick = hadSick;
            return s;
        }
    }

    /** Rows of numbers in its lists are never changed, so that a copy may hold the same. */
    private static final class Ledger {
        int now, chest, proofs;
        final List<Person> people = new ArrayList<>();
        final List<Ship> ships = new ArrayList<>();
        final List<int[]> news = new ArrayList<>();
        /** Of each box, in order: {week, amount, -1} of alms, {week, found, number} of openings. */
        final List<List<int[]>> boxes = new ArrayList<>();
        final List<int[]> openings = new ArrayList<>();
        final List<Integer> legacies = new ArrayList<>();
        int alms;
        final int[] ports = {1, 1, 1, 1, 1}, lags = {4, 4, 4, 4, 4}, premiums = new int[4];

        Ledger() {
            for (int i = 0; i < 6; i++) boxes.add(new ArrayList<>());
        }

        Ledger copy() {
            Ledger l = new Ledger();
            l.now = now;
            l.chest = chest;
            l.proofs = proofs;
            for (Person p : people) l.people.add(p.copy());
            for (Ship s : ships) l.ships.add(s.copy());
            l.news.addAll(news);
            for (int i = 0; i < 6; i++) l.boxes.get(i).addAll(boxes.get(i));
            l.openings.addAll(openings);
            l.legacies.addAll(legacies);
            l.alms = alms;
            System.arraycopy(ports, 0, l.ports, 0, 5);
            System.arraycopy(lags, 0, l.lags, 0, 5);
            System.arraycopy(premiums, 0, l.premiums, 0, 4);
            return l;
        }

        int ask(Person p, int week) {
            int parts = 100;
            for (int[] n : news) {
                boolean isOfThem = n[0] == -1 || people.get(n[0]) == p;
                if (isOfThem && week - n[2] >= lags[ports[p.master]]) parts += 10 * n[1];
            }
            return (p.paid + premiums[p.trade]) * parts / 100;
        }

        int left(int legacy) {
            int left = legacies.get(legacy);
            for (Person p : people) {
                if (p.legacy == legacy) left -= p.price;
            }
            return left;
        }

        List<Person> aboard(int ship) {
            List<Person> those = new ArrayList<>();
            for (Person p : people) {
                if (p.ship == ship && (p.state == 1 || p.state == 2)) those.add(p);
            }
            return those;
        }

        void week() {
            now++;
            for (Person p : people) {
                if (p.since >= 0 && p.since + 6 == now && p.state <= 3) p.state = 7;
            }
            for (int s = 0; s < ships.size(); s++) {
                if (ships.get(s).comes != now) continue;
                for (Person p : aboard(s)) {
                    p.state = 3;
                    p.off = ships.get(s).hadSick ? 6 : 2;
                }
            }
            for (Person p : people) {
                if (p.state == 3 && now == ships.get(p.ship).comes + p.off) p.state = 4;
            }
        }
    }

    private static void due(String call, int got, int want) {
        asked++;
        if (got == want) return;
        wrong++;
        if (wrong < 50) System.out.println(call + " answered " + got + ", due is " + want);
    }

    private static int some(int least, int most) {
        return least + dice.nextInt(most - least + 1);
    }

    public static void main(String[] args) {
        for (int run = 0; run < 1500; run++) oneRun();
        System.out.println(wrong == 0 ? asked + " answers are as due" : wrong + " answers are not as due");
        if (wrong != 0) System.exit(1);
    }

    private static FriarLists x;
    private static Ledger ledger;
    private static Ledger kept;

    private static void oneRun() {
        x = new FriarLists();
        ledger = new Ledger();
        kept = null;
        int hunters = some(0, 1) * 50;
        for (int port = 1; port < 4; port++) x.sails(port, 0, 100 * some(1, 9) + hunters);
        // many runs begin with captives who can be bought and a ship for them, so that voyages come to their end
        if (some(0, 3) > 0) {
            openBox();
            for (int i = 0; i < 4; i++) captive();
            ship();
            for (int i = 0; i < 8; i++) buy();
        }
        // with three calls at most in a turn, and those of compare(), a run stays below the 512 calls that are promised
        for (int i = 0; i < 50; i++) call();
        compare();
    }

    private static void call() {
        switch (some(0, 22)) {
            case 0: case 1: captive(); break;
            case 2: case 3: case 4: weeks(); break;
            case 5: sick(); break;
            case 6: lose(); break;
            case 7: case 8: case 9: buy(); break;
            case 10: case 11: case 12: aboard(); break;
            case 13: sail(); break;
            case 14: ship(); break;
            case 15: alms(); break;
            case 16: openBox(); break;
            case 17: legacy(); break;
            case 18: tell(); break;
            case 19: news(); break;
            case 20: settings(); break;
            case 21: proof(); break;
            default: keepOrAgain(); break;
        }
    }

    private static Person person(int c) {
        return c >= 0 && c < ledger.people.size() ? ledger.people.get(c) : null;
    }

    private static int someone() {
        return some(0, 15) == 0 ? ledger.people.size() : some(0, Math.max(0, ledger.people.size() - 1));
    }

    private static void captive() {
        Person p = new Person();
        p.name = some(1, 26);
        p.parish = some(0, 5);
        p.trade = some(0, 3);
        p.master = some(0, 3) == 0 ? some(0, 4) : 0;
        p.age = some(1, 90);
        p.taken = some(0, ledger.now);
        p.paid = some(1, 60);
        int got = x.captive(p.name, 100 * p.parish + 10 * p.trade + p.master, p.age, p.taken, p.paid);
        boolean isFull = ledger.people.size() == 16;
        due("captive", got, isFull ? -2 : ledger.people.size());
        if (!isFull) ledger.people.add(p);
    }

    private static void weeks() {
        int n = some(0, 9) == 0 ? some(1, 200) : some(1, 4);
        boolean isLate = ledger.now + n > 1999;
        for (int i = 0; i < n && !isLate; i++) ledger.week();
        due("weeks(" + n + ")", x.weeks(n), isLate ? -4 : ledger.now);
    }

    private static void sick() {
        int c = someone();
        Person p = person(c);
        boolean is = some(0, 1) == 0;
        int want = p == null ? -1 : p.state >= 4 ? -4 : (p.since >= 0) == is ? 0 : 1;
        due("sick", x.sick(c, is), want);
        if (want != 1) return;
        p.since = is ? ledger.now : -3;
        if (is && p.state == 2) ledger.ships.get(p.ship).hadSick = true;
    }

    private static void lose() {
        int c = someone(), to = some(5, 7);
        Person p = person(c);
        int want = p == null ? -1 : p.state != 0 ? -4 : 1;
        due("lose", x.lose(c, to), want);
        if (want == 1) p.state = to;
    }

    private static void buy() {
        int c = someone(), from = some(-1, ledger.legacies.size() - 1);
        Person p = person(c);
        int ask = p == null ? -1 : ledger.ask(p, ledger.now);
        boolean can = p != null && p.state == 0 && (from == -1 ? ledger.chest : ledger.left(from)) >= ask;
        due("buy", x.buy(c, from), p == null ? -1 : can ? ask : -4);
        if (!can) return;
        p.state = 1;
        p.price = ask;
        if (from == -1) ledger.chest -= ask;
        else p.legacy = from;
    }

    private static void aboard() {
        int c = someone(), s = some(0, ledger.ships.size());
        Person p = person(c);
        if (p == null || s == ledger.ships.size()) {
            due("aboard", x.aboard(c, s), -1);
            return;
        }
        Ship ship = ledger.ships.get(s);
        boolean can = p.state == 1 && p.ship == -3 && ledger.ports[p.master] == ship.port && ship.comes < 0
            && ledger.aboard(s).size() < ship.pass;
        if (can) p.ship = s;
        due("aboard", x.aboard(c, s), can ? ledger.aboard(s).size() : -4);
    }

    private static void sail() {
        int s = some(0, ledger.ships.size());
        if (s == ledger.ships.size()) {
            due("sail", x.sail(s), -1);
            return;
        }
        Ship ship = ledger.ships.get(s);
        List<Person> those = ledger.aboard(s);
        int weeks = those.isEmpty() ? 0 : x.road(ship.port, those.size(), 1);
        int want = ship.comes >= 0 || those.isEmpty() ? -4 : weeks < 0 ? -3 : ledger.now + weeks;
        due("sail", x.sail(s), want);
        if (want < 0) return;
        ship.comes = want;
        for (Person p : those) {
            p.state = 2;
            ship.hadSick |= p.since >= 0;
        }
    }

    private static void ship() {
        Ship s = new Ship();
        s.port = some(0, 2) == 0 ? some(1, 4) : ledger.ports[0];
        s.pass = some(1, 3);
        boolean isFull = ledger.ships.size() == 4;
        due("ship", x.ship(s.port, s.pass), isFull ? -2 : ledger.ships.size());
        if (!isFull) ledger.ships.add(s);
    }

    private static void alms() {
        int parish = some(0, 2), amount = some(1, 99);
        boolean isFull = ledger.alms == 24;
        if (!isFull) {
            ledger.alms++;
            ledger.boxes.get(parish).add(new int[] {ledger.now, amount, -1});
        }
        due("alms", x.alms(parish, amount), isFull ? -2 : ledger.alms);
    }

    private static void openBox() {
        int parish = some(0, 2), keys = some(0, 7), found = some(0, 2) == 0 ? some(0, 9999) : some(0, 150);
        boolean isFull = ledger.openings.size() == 12;
        due("openBox", x.openBox(parish, keys, found), isFull ? -2 : ledger.openings.size());
        if (isFull) return;
        ledger.boxes.get(parish).add(new int[] {ledger.now, found, ledger.openings.size()});
        ledger.openings.add(new int[] {parish, keys, found});
        ledger.chest += found;
    }

    private static void legacy() {
        int amount = some(1, 200);
        boolean isFull = ledger.legacies.size() == 6;
        due("legacy", x.legacy(amount), isFull ? -2 : ledger.legacies.size());
        if (!isFull) ledger.legacies.add(amount);
    }

    private static void tell() {
        int c = someone();
        Person p = person(c);
        if (some(0, 1) == 0) {
            boolean is = some(0, 1) == 0;
            due("turned", x.turned(c, is), p == null ? -1 : p.turned ? 1 : 0);
            if (p != null) p.turned = is;
        } else {
            due("twice", x.twice(c), p == null ? -1 : p.price > 0 ? 1 : 0);
            if (p != null) p.told = true;
        }
    }

    private static void news() {
        int c = some(0, 2) == 0 ? -1 : someone(), weight = some(1, 9);
        int want = c != -1 && person(c) == null ? -1 : ledger.news.size() == 12 ? -2 : ledger.news.size();
        due("news", x.news(c, weight), want);
        if (want >= 0) ledger.news.add(new int[] {c, weight, ledger.now});
    }

    private static void settings() {
        int i = some(0, 4), port = some(1, 4), lag = some(1, 20), premium = some(0, 50);
        due("master", x.master(i, port), ledger.ports[i]);
        ledger.ports[i] = port;
        port = some(1, 4);
        due("lag", x.lag(port, lag), ledger.lags[port]);
        ledger.lags[port] = lag;
        due("premium", x.premium(i % 4, premium), ledger.premiums[i % 4]);
        ledger.premiums[i % 4] = premium;
    }

    private static void proof() {
        int c = someone(), by = some(-1, 5);
        Person p = person(c);
        if (p == null || ledger.proofs == 20) {
            due("proof", x.proof(c, by), p == null ? -1 : -2);
            return;
        }
        ledger.proofs++;
        if (by >= 0 && !p.proofs.contains(by)) p.proofs.add(by);
        due("proof", x.proof(c, by), p.proofs.size());
    }

    private static void keepOrAgain() {
        if (some(0, 1) == 0) {
            due("keep", x.keep(), 1);
            kept = ledger.copy();
        } else {
            due("again", x.again(), kept == null ? -3 : 1);
            if (kept != null) ledger = kept.copy();
        }
    }

    // ---- at the end of a run

    private static void compare() {
        int[] states = new int[8];
        int irregular = 0;
        for (int c = 0; c < ledger.people.size(); c++) {
            Person p = ledger.people.get(c);
            states[p.state]++;
            int[] want = {p.name, p.parish, p.trade, p.master, p.taken, p.paid, p.state, p.since, p.turned ? 1 : 0,
                p.age + (ledger.now - p.taken) / 52, p.price, p.legacy, p.ship, p.told && p.price > 0 ? 1 : 0};
            for (int what = 0; what < 14; what++) due("of(" + c + ", " + what + ")", x.of(c, what), want[what]);
            int week = some(0, 1999);
            due("ask(" + c + ", " + week + ")", x.ask(c, week), ledger.ask(p, week));
        }
        for (int[] opening : ledger.openings) {
            if (opening[1] < 7) irregular++;
        }
        for (int l = 0; l < ledger.legacies.size(); l++) {
            due("legacyOf(" + l + ", 0)", x.legacyOf(l, 0), ledger.legacies.get(l));
            due("legacyOf(" + l + ", 1)", x.legacyOf(l, 1), ledger.left(l));
        }
        compareBoxes();
        int[] many = {ledger.now, ledger.people.size(), ledger.news.size(), ledger.alms, ledger.openings.size(),
            ledger.legacies.size(), 0, ledger.proofs, ledger.ships.size(), 0, 0, 0, 0, ledger.chest, irregular};
        for (int what = 0; what < many.length; what++) due("many(" + what + ")", x.many(what), many[what]);
        for (int state = 0; state < 8; state++) due("many of state " + state, x.many(20 + state), states[state]);
    }

    private static void compareBoxes() {
        for (int parish = 0; parish < 6; parish++) {
            int sum = 0, ahead = 0, since = -3;
            for (int[] entry : ledger.boxes.get(parish)) {
                if (entry[2] < 0) {
                    sum += entry[1];
                    continue;
                }
                due("lack(" + entry[2] + ")", x.lack(entry[2]), 10000 + sum - entry[1]);
                if (since < 0 && sum > entry[1]) since = ahead;
                sum = 0;
                ahead = entry[0];
            }
            due("shortSince(" + parish + ")", x.shortSince(parish), since);
        }
    }
}
