import java.util.Random;

/** Long random runs on new objects, each call's answer against the Model's. */
public final class ModelTest {
    // An object has 512 calls; one step of a run makes 101 at the most.
    private static final int RUNS = 250, CALLS = 512 - 101;

    private final Random random;
    private final ElevenYards yards = new ElevenYards();
    private final Model model = new Model();
    private String call = "";
    private int calls = 0;

    private ModelTest(long seed) {
        random = new Random(seed);
    }

    public static void main(String[] args) {
        int wrong = 0;
        int runs = args.length > 0 ? Integer.parseInt(args[0]) : RUNS;
        for (int seed = 0; seed < runs; seed++) {
            if (!new ModelTest(seed).runs(seed)) wrong++;
        }
        if (wrong > 0) System.exit(1);
    }

    private boolean runs(int seed) {
        // Most runs begin with what makes the rest worth asking; some begin with nothing at all.
        if (seed % 8 != 0 && !prepares(seed)) return false;
        while (calls < CALLS) {
            if (!agrees(seed)) return false;
        }
        return true;
    }

    private boolean prepares(int seed) {
        for (int i = 0; i < 9; i++) {
            int n = random.nextInt(101);
            if (!same(seed, "table", yards.table(i / 3, i % 3, n), model.table(i / 3, i % 3, n))) return false;
        }
        for (int i = 1 + random.nextInt(4); i > 0; i--) {
            if (!feeds(seed, ruleText()) || !same(seed, "rule", yards.rule(), model.rule())) return false;
        }
        for (int i = 2 + random.nextInt(8); i > 0; i--) {
            int kind = random.nextInt(7), v = random.nextInt(3), rule = random.nextInt(4);
            if (!same(seed, "player", yards.player(kind, v, rule), model.player(kind, v, rule))) return false;
        }
        for (int i = 0; i < 12; i++) {
            int who = random.nextInt(Math.max(1, model.count(0)));
            if (!same(seed, "team", yards.team(i / 6, i % 6, who), model.team(i / 6, i % 6, who))) return false;
        }
        return true;
    }

    private boolean feeds(int seed, String text) {
        for (int i = 0; i < text.length(); ) {
            int n = Math.min(1 + random.nextInt(4), text.length() - i);
            int bytes = random.nextInt();
            for (int k = 0; k < n; k++) bytes = bytes << 8 | text.charAt(i + k);
            if (!same(seed, "feed " + bytes + " " + n, yards.feed(bytes, n), model.feed(bytes, n))) return false;
            i += n;
        }
        return true;
    }

    private String ruleText() {
        StringBuilder text = new StringBuilder();
        int clauses = 1 + random.nextInt(random.nextInt(10) == 0 ? 9 : 5);
        for (int i = 0; i < clauses; i++) {
            String head = random.nextInt(4) == 0 ? "press " : "go " + random.nextInt(3) + " ";
            String clause = head + random.nextInt(100) + " " + either(0, 2);
            if (text.length() + clause.length() < 100) text.append(i == 0 ? "" : ";").append(clause);
        }
        if (random.nextInt(4) == 0 && text.length() > 0) spoil(text);
        return text.length() > 100 ? text.substring(0, 100) : text.toString();
    }

    private void spoil(StringBuilder text) {
        int place = random.nextInt(text.length());
        String signs = "gopres 0123456789lotd<=>!()&|;z" + (char) 200;
        char sign = signs.charAt(random.nextInt(signs.length()));
        switch (random.nextInt(4)) {
            case 0: text.setCharAt(place, sign); break;
            case 1: text.insert(place, sign); break;
            case 2: text.deleteCharAt(place); break;
            default: text.setLength(place);
        }
    }

    private String either(int depth, int more) {
        String e = both(depth, more);
        return random.nextInt(3) == 0 && more > 0 ? e + "|" + either(depth, more - 1) : e;
    }

    private String both(int depth, int more) {
        String t = single(depth, more);
        return random.nextInt(3) == 0 && more > 0 ? t + "&" + both(depth, more - 1) : t;
    }

    private String single(int depth, int more) {
        int choice = random.nextInt(8);
        if (depth < 5 && choice == 0) return "!" + single(depth + 1, more);
        if (depth < 5 && choice <= 2) return "(" + either(depth + 1, more) + ")";
        int letter = random.nextInt(4);
        int[] most = {5, 5, 12, 22};
        return "lotd".charAt(letter) + "" + "<=>".charAt(random.nextInt(3)) + random.nextInt(most[letter]);
    }

    /** A number from low to high, seldom one beside them or far off. */
    private int near(int low, int high) {
        switch (random.nextInt(50)) {
            case 0: return low - 1;
            case 1: return high + 1;
            case 2: return random.nextBoolean() ? Integer.MIN_VALUE : Integer.MAX_VALUE;
            case 3: return random.nextInt();
            default: return low + random.nextInt(high - low + 1);
        }
    }

    private int man() {
        return near(0, Math.max(0, model.count(0) - 1));
    }

    private boolean same(int seed, String what, long got, long due) {
        calls++;
        if (got != due) System.out.println("seed " + seed + ": " + what + " answered " + got + ", due is " + due);
        return got == due;
    }

    private boolean agrees(int seed) {
        long[] answers = random.nextInt(3) == 0 ? askStill() : random.nextBoolean() ? askChanging() : askOdds();
        return same(seed, call, answers[0], answers[1]);
    }

    private void say(String name, long... numbers) {
        call = name + java.util.Arrays.toString(numbers);
    }

    private long[] pair(long got, long due) {
        return new long[] {got, due};
    }

    private long[] askStill() {
        int i = near(-1, 5), a = near(0, 4), b = near(0, 4), c = near(0, 10);
        say("still", i, a, b, c);
        switch (random.nextInt(17)) {
            case 0: return pair(yards.told(a, b), model.told(a, b));
            case 1: return pair(yards.of(c, a), model.of(c, a));
            case 2: return askRest(a);
            case 3: return pair(yards.gap(), model.gap());
            case 4: return pair(yards.does(a), model.does(a));
            case 5: return pair(yards.shows(a), model.shows(a));
            case 6: return pair(yards.likely(a), model.likely(a));
            case 7: return pair(yards.win(a), model.win(a));
            case 8: return pair(yards.at(c, a, b), model.at(c, a, b));
            case 9: return pair(yards.order(i), model.order(i));
            case 10: return pair(yards.judge(i, c), model.judge(i, c));
            case 11: return pair(yards.trace(c), model.trace(c));
            case 12: return pair(yards.taken(c, i), model.taken(c, i));
            case 13: return pair(yards.count(i), model.count(i));
            case 14: return pair(yards.read(i, c), model.read(i, c));
            case 15: return pair(yards.win(1), model.win(1));
            default: return pair(yards.judge(0, c), model.judge(0, c));
        }
    }

    private long[] askRest(int what) {
        int who = near(0, 1);
        say("rest", who, what);
        return pair(yards.rest(who, what), model.rest(who, what));
    }

    private long[] askOdds() {
        int x = man(), y = man(), who = near(0, 1), side = near(0, 2), part = near(0, 1);
        int l = near(0, 3), o = near(0, 3), t = random.nextBoolean() ? near(0, 99) : near(0, 11), d = near(0, 20);
        int n = near(0, 100);
        say("odds", x, y, who, side, part, l, o, t, d, n);
        switch (random.nextInt(4)) {
            case 0: return pair(yards.weight(x, y, who, side, l, o, t, d), model.weight(x, y, who, side, l, o, t, d));
            case 1: return pair(yards.reply(x, y, who, l, o, t, d), model.reply(x, y, who, l, o, t, d));
            case 2: return pair(yards.odds(x, y, who, l, o, t, d, part), model.odds(x, y, who, l, o, t, d, part));
            default: return pair(yards.leak(x, y, n, t, d, part), model.leak(x, y, n, t, d, part));
        }
    }

    private long[] askChanging() {
        int a = near(0, 2), b = near(0, 2), n = near(0, 100), kind = near(0, 6), five = near(0, 5), tape = near(0, 2);
        say("changing", a, b, n, kind, five, tape);
        switch (random.nextInt(14)) {
            case 0: return pair(yards.table(a, b, n), model.table(a, b, n));
            case 1: return pair(yards.feed(n, five), model.feed(n, five));
            case 2: return feedOrRule();
            case 3: return pair(yards.player(kind, a, five), model.player(kind, a, five));
            case 4:
            case 5: return pair(yards.kick(a, b, n > 50), model.kick(a, b, n > 50));
            case 6: return n < 30 ? pair(yards.clear(), model.clear()) : pair(yards.likely(a), model.likely(a));
            case 7: return askTeam(five);
            case 8: return pair(yards.image(), model.image());
            case 9: return pair(yards.undo(), model.undo());
            case 10:
                int x = random.nextInt();
                int who = man();
                say("act", who, a, x);
                return pair(yards.act(who, a, x), model.act(who, a, x));
            case 11:
                int sort = random.nextBoolean() ? 0 : near(-1, 4);
                int size = random.nextBoolean() ? 12 : near(0, 60);
                say("tape", tape, sort, size);
                return pair(yards.tape(tape, sort, size), model.tape(tape, sort, size));
            case 12: return askItem(tape);
            default:
                int other = near(0, 2), i = near(0, 12), j = near(0, 12), many = near(0, 8);
                say("shift", tape, i, other, j, many);
                return pair(yards.shift(tape, i, other, j, many), model.shift(tape, i, other, j, many));
        }
    }

    private long[] feedOrRule() {
        if (random.nextBoolean()) {
            String text = ruleText();
            calls += text.length();
            for (int i = 0; i < text.length(); i++) {
                int got = yards.feed(text.charAt(i), 1), due = model.feed(text.charAt(i), 1);
                if (got != due) return pair(got, due);
            }
        }
        say("rule");
        return pair(yards.rule(), model.rule());
    }

    private long[] askTeam(int i) {
        int team = near(0, 1), who = man();
        say("team", team, i, who);
        return pair(yards.team(team, i, who), model.team(team, i, who));
    }

    private long[] askItem(int tape) {
        long v = random.nextInt(8) == 0 ? random.nextLong() : random.nextInt(2);
        int i = near(0, 11);
        say("item", tape, i, v);
        calls++;
        long[] answers = pair(yards.item(tape, i, v), model.item(tape, i, v));
        return answers[0] == answers[1] ? pair(yards.read(tape, i), model.read(tape, i)) : answers;
    }
}
