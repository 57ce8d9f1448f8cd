import java.lang.reflect.Method;
import java.util.ArrayList;
import java.util.Arrays;
import java.util.Comparator;
import java.util.List;
import java.util.Random;

/** Calls of any kind with any numbers: none throws, and a refused one changes nothing that can be asked. */
public final class AnyCallsTest {
    private static final Random dice = new Random(8);
    private static final int[] EDGES = {Integer.MIN_VALUE, Integer.MAX_VALUE, -2, -1, 10000, 99999, 1999, 2000, 387420489};
    /** Answers of these may be below 0 without a refusal; act() has a trace even where it answers -15. */
    private static final List<String> ANY_ANSWER = List.of("act", "item", "row", "alterRow", "read", "trace");

    public static void main(String[] args) throws Exception {
        List<Method> calls = new ArrayList<>();
        for (Method m : FriarLists.class.getDeclaredMethods()) {
            if (java.lang.reflect.Modifier.isPublic(m.getModifiers())) calls.add(m);
        }
        calls.sort(Comparator.comparing(Method::getName));
        int wrong = calls.size() == 55 ? 0 : 1;
        int refused = 0, made = 0;
        for (int run = 0; run < 400; run++) {
            FriarLists x = new FriarLists();
            for (int i = 0; i < 512; i++) {
                Method call = calls.get(dice.nextInt(calls.size()));
                Object[] told = told(call, run % 4 == 0);
                boolean looks = run % 10 == 1 && !ANY_ANSWER.contains(call.getName());
                int[] ahead = looks ? seen(x) : null;
                int answer = (Integer) call.invoke(x, told);
                made++;
                if (!looks || answer >= 0) continue;
                refused++;
                if (Arrays.equals(ahead, seen(x))) continue;
                wrong++;
                System.out.println(call.getName() + Arrays.toString(told) + " answered " + answer + " and changed something");
            }
        }
        System.out.println(made + " calls, none of them threw; " + refused + " refused ones were looked at, wrong: " + wrong);
        if (wrong != 0) System.exit(1);
    }

    private static Object[] told(Method call, boolean isWild) {
        Class<?>[] types = call.getParameterTypes();
        Object[] told = new Object[types.length];
        for (int i = 0; i < told.length; i++) {
            if (types[i] == boolean.class) told[i] = dice.nextBoolean();
            else if (types[i] == long.class) told[i] = dice.nextLong();
            else told[i] = number(isWild);
        }
        String name = call.getName();
        if (!isWild && name.equals("captive")) return new Object[] {dice.nextInt(3), dice.nextInt(6) * 100 + dice.nextInt(45), 1 + dice.nextInt(91), 0, 1 + dice.nextInt(99)};
        if (!isWild && name.equals("openBox")) return new Object[] {dice.nextInt(7), 7, dice.nextInt(900)};
        if (!isWild && name.equals("sails")) return new Object[] {dice.nextInt(5), dice.nextInt(5), dice.nextInt(1001)};
        if (!isWild && name.equals("mole")) return new Object[] {dice.nextInt(6), dice.nextInt(900)};
        if (!isWild && name.equals("feed")) return new Object[] {(long) "rank 1; ".charAt(dice.nextInt(8)), 1};
        if (!isWild && name.equals("sheet")) return new Object[] {dice.nextInt(5), dice.nextInt(7) - 1, dice.nextInt(44) - 2};
        return told;
    }

    private static int number(boolean isWild) {
        int sort = dice.nextInt(isWild ? 4 : 20);
        if (sort == 0) return EDGES[dice.nextInt(EDGES.length)];
        if (sort == 1) return dice.nextInt();
        return dice.nextInt(sort == 2 ? 30 : 5);
    }

    /** All that can be asked without a change. */
    private static int[] seen(FriarLists x) {
        int[] seen = new int[3000];
        int n = 0;
        for (int what = 0; what < 28; what++) seen[n++] = x.many(what);
        for (int c = 0; c < 16; c++) {
            for (int what = 0; what < 14; what++) seen[n++] = x.of(c, what);
            for (int week : new int[] {0, 100, 1999}) {
                seen[n++] = x.ask(c, week);
                seen[n++] = x.rank(c, week);
                seen[n++] = x.barred(c, week);
            }
        }
        for (int i = 0; i < 12; i++) {
            for (int what = 0; what < 2; what++) seen[n++] = x.row(i, what);
            for (int what = 0; what < 3; what++) seen[n++] = x.legacyOf(i, what);
            for (int what = 0; what < 40; what++) seen[n++] = x.version(i, what);
            seen[n++] = x.lack(i);
            seen[n++] = x.shortSince(i);
            seen[n++] = x.trace(i);
            seen[n++] = x.key(i + 1);
            seen[n++] = x.meant(i + 1, -1);
            seen[n++] = x.question(i + 1, -1);
            for (int as = 0; as < 15; as++) seen[n++] = x.taken(i, as);
            for (int sort = 0; sort < 5; sort++) seen[n++] = x.item(i, sort, i);
        }
        for (int port = 1; port < 5; port++) {
            for (int what = 0; what < 6; what++) seen[n++] = x.road(port, 9, what);
            for (int coin = 0; coin < 3; coin++) seen[n++] = x.brought(port, coin, 2, 999);
            for (int what = -2; what < 4; what++) seen[n++] = x.years(port * 50, what);
            seen[n++] = x.judge(port, 500);
        }
        return seen;
    }
}
