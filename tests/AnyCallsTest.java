import java.lang.reflect.Method;
import java.util.ArrayList;
import java.util.Arrays;
import java.util.Comparator;
import java.util.List;
import java.util.Random;
import java.util.function.ToIntFunction;
import java.util.stream.IntStream;

/** Calls of any kind with any numbers: none throws, and a refused one changes nothing that can be asked. */
public final class AnyCallsTest {
    private static final Random dice = new Random(8);
    private static final int[] EDGES = {Integer.MIN_VALUE, Integer.MAX_VALUE, -2, -1, 10000, 99999, 1999, 2000, 387420489};
    /** Answers of these may be below 0 without a refusal; act() has a trace even where it answers -15. */
    private static final List<String> ANY_ANSWER = List.of("act", "item", "row", "alterRow", "read", "trace");

    private static final List<Method> CALLS = new ArrayList<>();
    private static final List<ToIntFunction<FriarLists>> LOOKS = looks();

    private record Call(Method method, Object[] told) {
        int on(FriarLists x) throws ReflectiveOperationException {
            return (Integer) method.invoke(x, told);
        }

        boolean isRefusal(int answer) {
            return answer < 0 && !ANY_ANSWER.contains(method.getName());
        }
    }

    public static void main(String[] args) throws ReflectiveOperationException {
        for (Method m : FriarLists.class.getDeclaredMethods()) {
            if (java.lang.reflect.Modifier.isPublic(m.getModifiers())) CALLS.add(m);
        }
        CALLS.sort(Comparator.comparing(Method::getName));
        int wrong = CALLS.size() == 55 ? 0 : 1;
        int made = 0, refused = 0;
        for (int run = 0; run < 400; run++) {
            FriarLists x = new FriarLists();
            for (int i = 0; i < 512; i++) {
                anyCall(run % 4 == 0).on(x);
                made++;
            }
        }
        for (int run = 0; run < 400; run++) {
            List<Call> calls = new ArrayList<>(), taken = new ArrayList<>();
            FriarLists x = new FriarLists();
            for (int i = 0; i < 200; i++) {
                Call call = anyCall(run % 10 == 0);
                calls.add(call);
                if (!call.isRefusal(call.on(x))) taken.add(call);
            }
            refused += calls.size() - taken.size();
            if (Arrays.equals(seenBehind(calls), seenBehind(taken))) continue;
            wrong++;
            System.out.println("refused calls changed something in run " + run);
        }
        System.out.println(made + " calls, none of them threw; " + refused + " refused ones were left out, wrong: " + wrong);
        if (wrong != 0) System.exit(1);
    }

    private static Call anyCall(boolean isWild) {
        Method method = CALLS.get(dice.nextInt(CALLS.size()));
        return new Call(method, told(method, isWild));
    }

    /** What the calls that aren't refused answer, and what can be asked behind them: of no object more than 512 calls. */
    private static int[] seenBehind(List<Call> calls) throws ReflectiveOperationException {
        List<Integer> seen = new ArrayList<>();
        for (int from = 0; from < LOOKS.size(); from += 300) {
            FriarLists x = new FriarLists();
            for (Call call : calls) {
                int answer = call.on(x);
                if (!call.isRefusal(answer)) seen.add(answer);
            }
            for (int i = from; i < Math.min(from + 300, LOOKS.size()); i++) seen.add(LOOKS.get(i).applyAsInt(x));
        }
        return seen.stream().mapToInt(Integer::intValue).toArray();
    }

    private static Object[] told(Method call, boolean isWild) {
        Class<?>[] types = call.getParameterTypes();
        Object[] told = new Object[types.length];
        for (int i = 0; i < told.length; i++) {
            if (types[i] == boolean.class) told[i] = dice.nextBoolean();
            else if (types[i] == long.class) told[i] = dice.nextLong();
            else told[i] = number(isWild);
        }
        String name = call.getName();
        if (!isWild && name.equals("captive")) return new Object[] {dice.nextInt(3), dice.nextInt(6) * 100 + dice.nextInt(45), 1 + dice.nextInt(91), 0, 1 + dice.nextInt(99)};
        if (!isWild && name.equals("openBox")) return new Object[] {dice.nextInt(7), 7, dice.nextInt(900)};
        if (!isWild && name.equals("sails")) return new Object[] {dice.nextInt(5), dice.nextInt(5), dice.nextInt(1001)};
        if (!isWild && name.equals("mole")) return new Object[] {dice.nextInt(6), dice.nextInt(900)};
        if (!isWild && name.equals("feed")) return new Object[] {(long) "rank 1; ".charAt(dice.nextInt(8)), 1};
        if (!isWild && name.equals("sheet")) return new Object[] {dice.nextInt(5), dice.nextInt(7) - 1, dice.nextInt(44) - 2};
        return told;
    }

    private static int number(boolean isWild) {
        int sort = dice.nextInt(isWild ? 4 : 20);
        if (sort == 0) return EDGES[dice.nextInt(EDGES.length)];
        if (sort == 1) return dice.nextInt();
        return dice.nextInt(sort == 2 ? 30 : 5);
    }

    /** All that can be asked without a change. */
    private static List<ToIntFunction<FriarLists>> looks() {
        List<ToIntFunction<FriarLists>> looks = new ArrayList<>();
        for (int what : upTo(28)) looks.add(x -> x.many(what));
        for (int c : upTo(16)) {
            for (int what : upTo(14)) looks.add(x -> x.of(c, what));
            for (int week : new int[] {0, 100, 1999}) {
                looks.add(x -> x.ask(c, week));
                looks.add(x -> x.rank(c, week));
                looks.add(x -> x.barred(c, week));
            }
        }
        for (int i : upTo(12)) {
            for (int what : upTo(2)) looks.add(x -> x.row(i, what));
            for (int what : upTo(3)) looks.add(x -> x.legacyOf(i, what));
            for (int what : upTo(40)) looks.add(x -> x.version(i, what));
            looks.add(x -> x.lack(i));
            looks.add(x -> x.shortSince(i));
            looks.add(x -> x.trace(i));
            looks.add(x -> x.key(i + 1));
            looks.add(x -> x.meant(i + 1, -1));
            looks.add(x -> x.question(i + 1, -1));
            for (int as : upTo(15)) looks.add(x -> x.taken(i, as));
            for (int sort : upTo(5)) looks.add(x -> x.item(i, sort, i));
        }
        for (int port = 1; port < 5; port++) {
            int to = port;
            for (int what : upTo(6)) looks.add(x -> x.road(to, 9, what));
            for (int coin : upTo(3)) looks.add(x -> x.brought(to, coin, 2, 999));
            for (int what : upTo(6)) looks.add(x -> x.years(to * 50, what - 2));
            looks.add(x -> x.judge(to, 500));
        }
        return looks;
    }

    private static int[] upTo(int n) {
        return IntStream.range(0, n).toArray();
    }
}
