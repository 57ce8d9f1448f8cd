import java.util.ArrayList;
import java.util.List;
import java.util.Random;

/** Texts made at random: what their conditions hold for, and where the fault is when they are spoilt. */
public final class TextsTest {
    private static int wrong = 0;
    private static int asked = 0;
    private static final Random dice = new Random(1230);
    private static final String[] FACTS = {"age", "weeks", "trade", "parish", "paid", "master"};

    private static void due(String call, int got, int want) {
        asked++;
        if (got == want) return;
        wrong++;
        System.out.println(call + " answered " + got + ", due is " + want);
    }

    private static int some(int least, int most) {
        return least + dice.nextInt(most - least + 1);
    }

    public static void main(String[] args) {
        for (int i = 0; i < 3000; i++) conditions();
        for (int i = 0; i < 20000; i++) faults();
        System.out.println(wrong == 0 ? asked + " answers are as due" : wrong + " answers are not as due");
        if (wrong != 0) System.exit(1);
    }

    private static int read(FriarLists x, List<String> tokens) {
        StringBuilder text = new StringBuilder();
        for (String token : tokens) text.append(token);
        for (int i = 0; i < text.length(); i++) x.feed(text.charAt(i), 1);
        return x.read();
    }

    // ---- conditions: each is a text and its truth, for the captive of the facts OF in a week, who is sick

    private record Cond(String text, boolean truth) { }

    private static final int TAKEN = 9;
    private static final int[] OF = {3, 2, 1, 4, 5, 0};
    private static boolean isSick = true;

    /** A week around the one on which the captive was taken and was sick, or around a year behind it. */
    private static int someWeek(int age) {
        int week = TAKEN + 52 * some(0, 4) + some(-2, 2);
        OF[1] = Math.max(0, week - TAKEN);
        OF[0] = age + OF[1] / 52;
        isSick = week >= TAKEN;
        return week;
    }

    private static Cond one(int depth) {
        if (some(0, 3) == 0) {
            Cond part = one(depth);
            return new Cond("not " + part.text, !part.truth);
        }
        if (depth < 4 && some(0, 2) == 0) {
            Cond part = any(depth + 1);
            return new Cond("(" + part.text + ")", part.truth);
        }
        if (some(0, 5) == 0) return some(0, 1) == 0 ? new Cond("sick", isSick) : new Cond("turned", false);
        int fact = some(0, 5), n = Math.max(0, OF[fact] + some(-2, 2)), sign = some(0, 2);
        boolean truth = sign == 0 ? OF[fact] < n : sign == 1 ? OF[fact] == n : OF[fact] > n;
        return new Cond(FACTS[fact] + "<=>".charAt(sign) + n, truth);
    }

    private static Cond all(int depth) {
        Cond cond = one(depth);
        while (some(0, 2) == 0) {
            Cond next = one(depth);
            cond = new Cond(cond.text + " and " + next.text, cond.truth & next.truth);
        }
        return cond;
    }

    private static Cond any(int depth) {
        Cond cond = all(depth);
        while (some(0, 2) == 0) {
            Cond next = all(depth);
            cond = new Cond(cond.text + " or " + next.text, cond.truth | next.truth);
        }
        return cond;
    }

    private static void conditions() {
        int age = some(1, 90), week = someWeek(age);
        Cond cond = any(0);
        String bar = "bar if " + cond.text + ";", left = "left 0 buys " + cond.text + ";", rank = "rank 3 if " + cond.text + ";";
        if (bar.length() + left.length() + rank.length() > 250) return;
        FriarLists x = new FriarLists();
        x.legacy(1);
        due(bar, read(x, List.of(bar, left, rank)), 0);
        x.weeks(TAKEN);
        x.captive(1, 410, age, TAKEN, 5);
        x.sick(0, true);
        due(bar + " in week " + week, x.barred(0, week), cond.truth ? 1 : 0);
        due(left + " in week " + week, x.may(0, 0, week), cond.truth ? 1 : 0);
        due(rank + " in week " + week, x.rank(0, week), cond.truth ? 3 : 9);
    }

    // ---- faults: tokens are put together, some at random, and a row of states tells the first that is wrong

    private static void faults() {
        List<String> tokens = new ArrayList<>();
        for (int lines = some(0, 11); lines > 0; lines--) addLine(tokens);
        String[] others = {"(", ")", "not ", "and ", "or ", "sick ", "<", "=", "5", "77", "700", "1000", ";", "if ", "rank ", "age", "x ", "?", " ", "00"};
        for (int spoilt = some(0, 2); spoilt > 0 && !tokens.isEmpty(); spoilt--) {
            int at = some(0, tokens.size() - 1);
            String other = others[some(0, others.length - 1)];
            if (some(0, 2) == 0) tokens.remove(at);
            else if (some(0, 1) == 0) tokens.set(at, other);
            else tokens.add(at, other);
        }
        while (String.join("", tokens).length() > 250) tokens.remove(tokens.size() - 1);
        int fault = faultOf(String.join("", tokens));
        due("read of " + String.join("", tokens), read(new FriarLists(), tokens), fault < 0 ? 0 : -100 - fault);
    }

    private static void addLine(List<String> tokens) {
        String[][] heads = {{"rank ", "4"}, {"rank ", "9", "if "}, {"bar ", "if "}, {"left ", "5 ", "buys "}, {"proof ", "0"}};
        String[] head = heads[some(0, 4)];
        tokens.addAll(List.of(head));
        int open = 0;
        boolean hasCond = head[head.length - 1].equals("if ") || head[head.length - 1].equals("buys ");
        for (int i = 0; hasCond && i < 20; i++) {
            while (some(0, 4) == 0) tokens.add("not ");
            if (open < 5 && some(0, 2) == 0) {
                tokens.add("(");
                open++;
                continue;
            }
            if (some(0, 1) == 0) tokens.add(some(0, 1) == 0 ? "sick " : "turned ");
            else tokens.addAll(List.of(FACTS[some(0, 5)], "<", "12 "));
            while (open > 0 && some(0, 1) == 0) {
                tokens.add(")");
                open--;
            }
            if (open == 0 && some(0, 2) == 0) break;
            tokens.add(some(0, 1) == 0 ? "and " : "or ");
        }
        tokens.add(";");
    }

    /** The place of the fault by a row of states and a count of open brackets; -1 without. */
    private static int faultOf(String text) {
        java.util.regex.Matcher tokens = java.util.regex.Pattern.compile(" +|[a-z]+|[0-9]+|[^ ]").matcher(text);
        String state = "line";
        int lines = 0, open = 0, greatest = 0;
        while (tokens.find()) {
            String token = tokens.group();
            if (token.isBlank()) continue;
            String next = null;
            switch (state) {
                case "line":
                    next = lines == 9 ? null : token.equals("rank") || token.equals("proof") || token.equals("left") ? token + " N"
                        : token.equals("bar") ? "bar" : null;
                    break;
                case "rank N": case "proof N": case "left N":
                    greatest = state.equals("left N") ? 5 : 9;
                    next = isNumber(token, greatest) ? state.replace(" N", " told") : null;
                    break;
                case "rank told": next = token.equals("if") ? "one" : token.equals(";") ? "line" : null; break;
                case "proof told": next = token.equals(";") ? "line" : null; break;
                case "left told": next = token.equals("buys") ? "one" : null; break;
                case "bar": next = token.equals("if") ? "one" : null; break;
                case "one":
                    if (token.equals("not")) next = "one";
                    else if (token.equals("(") && open < 4) {
                        open++;
                        next = "one";
                    } else if (token.equals("sick") || token.equals("turned")) next = "behind";
                    else if (List.of(FACTS).contains(token)) next = "sign";
                    break;
                case "sign": next = "<=>".contains(token) ? "number" : null; break;
                case "number": next = isNumber(token, 999) ? "behind" : null; break;
                default:
                    if (token.equals("and") || token.equals("or")) next = "one";
                    else if (token.equals(")") && open > 0) {
                        open--;
                        next = "behind";
                    } else if (token.equals(";") && open == 0) next = "line";
                    break;
            }
            if (next == null) return tokens.start();
            if (token.equals(";")) lines++;
            state = next;
        }
        return state.equals("line") ? -1 : text.length();
    }

    private static boolean isNumber(String token, int greatest) {
        return token.matches("[0-9]{1,3}") && Integer.parseInt(token) <= greatest;
    }
}
