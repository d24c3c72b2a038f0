/** For each promise calls with answers worked out by hand: ordinary ones, the document's edges, wrong inputs. */
public final class PromisesTest extends Checks {
    public static void main(String[] args) {
        newObject();
        table();
        feed();
        ruleTexts();
        ruleFaults();
        ruleCounts();
        player();
        rest();
        weightsByRule();
        weightsByKind();
        weightsThatHeed();
        weightRefusals();
        reply();
        odds();
        bottle();
        leak();
        kicks();
        likely();
        team();
        win();
        first();
        at();
        order();
        judge();
        imageAndUndo();
        acts();
        taken();
        count();
        tapes();
        shift();
        end();
    }

    private static void newObject() {
        about("promise 1");
        ElevenYards x = new ElevenYards();
        for (int what = 0; what < 5; what++) due("count " + what, x.count(what), 0);
        for (int i = 0; i < 9; i++) due("told", x.told(i / 3, i % 3), 50);
        for (int tape = 0; tape < 6; tape++) due("item of nothing", x.item(tape, 0, 1), NOTHING);
        due("of", x.of(0, 0), NONE);
        due("win", x.win(0), -1000002);
        due("undo", x.undo(), STATE);
        due("trace", x.trace(0), NONE);
        due("does", x.does(0), -5);
        due("NONE", ElevenYards.NONE, -1);
        due("BAD", ElevenYards.BAD, -2);
        due("STATE", ElevenYards.STATE, -3);
        due("FULL", ElevenYards.FULL, -4);
        due("NO", ElevenYards.NO, NO);
    }

    private static void table() {
        about("promises 2, 3");
        ElevenYards x = new ElevenYards();
        due("table", x.table(0, 2, 0), 50);
        due("table", x.table(0, 2, 100), 0);
        due("table", x.table(2, 0, 7), 50);
        due("told", x.told(0, 2), 100);
        due("told", x.told(2, 0), 7);
        due("n below", x.table(0, 2, -1), BAD);
        due("n above", x.table(0, 2, 101), BAD);
        due("side ahead of n", x.table(3, 0, 101), NONE);
        due("keeper's side", x.table(0, 3, 5), NONE);
        due("side below", x.table(-1, 0, 5), NONE);
        due("side far off", x.table(MIN, MAX, 5), NONE);
        due("unchanged", x.told(0, 2), 100);
        due("told of no side", x.told(3, 0), NONE);
        due("told of no side", x.told(0, -1), NONE);
    }

    private static void feed() {
        about("promise 4");
        ElevenYards x = new ElevenYards();
        due("none", x.feed(-1, 0), 0);
        due("go 0", x.feed(0x676f2030, 4), 4);
        due("two lowest", x.feed(0x7a7a2031, 2), 6);
        due("three lowest", x.feed(0x7a206c3d, 3), 9);
        due("one lowest", x.feed(0x7a7a7a33, 1), 10);
        due("they come highest first", x.rule(), 0);
        for (int i = 1; i <= 25; i++) due("four", x.feed(MIN, 4), 4 * i);
        due("full", x.feed(0, 1), FULL);
        due("nothing still fits", x.feed(0, 0), 100);
        due("bad ahead of full", x.feed(0, 5), BAD);
        due("n below", x.feed(0, -1), BAD);
        due("n far off", x.feed(0, MAX), BAD);
        due("unchanged", x.count(3), 100);
        x.rule();
        for (int i = 1; i <= 24; i++) x.feed(0, 4);
        due("97", x.feed(0, 1), 97);
        due("four do not fit", x.feed(0, 4), FULL);
        due("three do", x.feed(0, 3), 100);
    }

    private static void ruleTexts() {
        about("promise 5, texts");
        String[] rules = {
            "go 0 1 l=3", "go 2 99 o<0|t>99", "press 00 d>20&!l=1", "go 1 7 ((((l=1))))", "press 7 !!!!l=1",
            "go 1 1 !(!(l=1&t=2)|o=3)", "go 1 1 (l=1)&(((o=1)))|!!(d<9)", "go 1 5 l=99;press 3 t<50",
            "go 0 1 l=1;go 0 1 l=1;go 0 1 l=1;go 0 1 l=1;go 0 1 l=1;go 0 1 l=1;go 0 1 l=1;go 0 1 l=1",
        };
        for (String text : rules) due(text, rule(new ElevenYards(), text), 0);
    }

    private static void ruleFaults() {
        about("promise 5, faults");
        Object[][] faults = {
            {"", 0}, {"x", 0}, {"G", 0}, {" go", 0}, {"g", 1}, {"gp", 1}, {"go", 2}, {"go0", 2}, {"go ", 3}, {"go  ", 3},
            {"go 3 1 l=0", 3}, {"go 10", 4}, {"go 1 ", 5}, {"go 1 x", 5}, {"go 1 1", 6}, {"go 1 1l", 6}, {"go 1 12", 7},
            {"go 1 123 l=0", 7}, {"go 1 12  l=0", 8}, {"go 1 1 ", 7}, {"go 1 1 l", 8}, {"go 1 1 l=", 9}, {"go 1 1 l=x", 9},
            {"go 1 1 l!3", 8}, {"go 1 1 l==3", 9}, {"go 1 1 l=123", 11}, {"go 1 1 z=1", 7}, {"go 1 1 l=1 ", 10},
            {"go 1 1 l=1)", 10}, {"go 1 1 (l=1", 11}, {"go 1 1 (l=1;", 11}, {"go 1 1 (l=1))", 12}, {"go 1 1 ()", 8},
            {"go 1 1 l=1|", 11}, {"go 1 1 l=1&&", 11}, {"go 1 1 l=1||l=2", 11}, {"go 1 1 l=1!", 10}, {"go 1 1 !", 8},
            {"go 1 1 l=1(", 10}, {"go 1 1 (((((l=1)))))", 11}, {"go 1 1 !!!!!l=1", 11}, {"go 1 1 !(!(!l=1))", 11},
            {"go 1 1 (l=1)&((((!l=1))))", 17}, {"go 1 1 l=1;", 11}, {"go 1 1 l=1;;", 11}, {"go 1 1 l=1;gone", 13},
            {"p", 1}, {"prest", 4}, {"press", 5}, {"press1", 5}, {"press 5", 7}, {"press 1 2 l=1", 8}, {"press 1 z=1", 8},
            {"go 1 1 l=1" + (char) 0, 10}, {"go 1 1 l=1" + (char) 200, 10},
            {"go 0 1 l=1;go 0 1 l=1;go 0 1 l=1;go 0 1 l=1;go 0 1 l=1;go 0 1 l=1;go 0 1 l=1;go 0 1 l=1;", 87},
        };
        for (Object[] fault : faults) {
            ElevenYards x = new ElevenYards();
            due((String) fault[0], rule(x, (String) fault[0]), -10 - (Integer) fault[1]);
            due("the text is empty then", x.count(3), 0);
        }
        ElevenYards x = new ElevenYards();
        feed(x, "go 1 1 l=1" + "&l=1".repeat(22));
        due("98 bytes", x.count(3), 98);
        feed(x, "|t");
        due("the end of a whole text", x.rule(), -110);
    }

    private static void ruleCounts() {
        about("promise 5, numbers");
        ElevenYards x = new ElevenYards();
        due("a fault has no number", rule(x, "go"), -12);
        for (int i = 0; i < 7; i++) due("rule", rule(x, "go 1 1 l=1"), i);
        feed(x, "pre");
        due("full ahead of the fault", x.rule(), FULL);
        due("the text stays", x.count(3), 3);
        due("seven", x.count(1), 7);
    }

    private static void player() {
        about("promises 6, 7");
        ElevenYards x = new ElevenYards();
        due("no rule", x.player(0, 0, 0), NONE);
        rule(x, "go 1 1 l=1");
        rule(x, "go 2 1 l=1");
        due("kind above", x.player(7, 0, 0), NONE);
        due("kind below", x.player(-1, 0, 0), NONE);
        due("rule above", x.player(0, 0, 2), NONE);
        due("rule below", x.player(0, 0, -1), NONE);
        due("rule ahead of v", x.player(0, 3, 2), NONE);
        due("v above", x.player(0, 3, 0), BAD);
        due("v below", x.player(0, -1, 0), BAD);
        for (int i = 0; i < 10; i++) due("player", x.player(i % 7, i % 3, i % 2), i);
        due("full", x.player(0, 0, 0), FULL);
        due("v ahead of full", x.player(0, 9, 0), BAD);
        due("ten", x.count(0), 10);
        due("kind", x.of(9, 0), 2);
        due("v", x.of(8, 1), 2);
        due("rule", x.of(9, 2), 1);
        due("no such what", x.of(9, 3), NONE);
        due("no such what", x.of(9, -1), NONE);
        due("no such player", x.of(10, 0), NONE);
        due("no such player", x.of(-1, 0), NONE);
    }

    private static void rest() {
        about("promises 8, 9");
        ElevenYards x = withTable(0, 100);
        // The kicker's most likely side decides: 7 of 20. The keeper's least likely one: 6 of 20.
        int[][] want = {{6, 7, 7, 1300}, {6, 6, 8, 1400}};
        for (int i = 0; i < 8; i++) due("rest", x.rest(i / 4, i % 4), want[i / 4][i % 4]);
        due("gap", x.gap(), 100);
        due("who", x.rest(2, 0), NONE);
        due("who", x.rest(-1, 0), NONE);
        due("what", x.rest(0, 4), NONE);
        due("what", x.rest(1, -1), NONE);
        ElevenYards even = new ElevenYards();
        int[] row = {0, 0, 20, 1000};
        for (int i = 0; i < 8; i++) due("the first row", even.rest(i / 4, i % 4), row[i % 4]);
        // One side is better than all others whatever the keeper does.
        even.table(1, 0, 90);
        even.table(1, 1, 60);
        even.table(1, 2, 95);
        int[][] pure = {{0, 20, 0, 1200}, {0, 20, 0, 1200}};
        for (int i = 0; i < 8; i++) due("pure", even.rest(i / 4, i % 4), pure[i / 4][i % 4]);
        due("no gap", even.gap(), 0);
        for (int keeper = 0; keeper < 3; keeper++) even.table(0, keeper, 99);
        due("all to the left", even.rest(0, 0), 20);
        due("nobody keeps that", even.rest(1, 3), 1980);
    }

    private static void weights(ElevenYards x, String name, int kicker, int keeper, int who, int[] state, int... want) {
        for (int side = 0; side < 3; side++) {
            int got = x.weight(kicker, keeper, who, side, state[0], state[1], state[2], state[3]);
            due(name + " side " + side, got, want[side]);
        }
    }

    private static void weightsByRule() {
        about("promise 10, rules");
        int[] state = {0, 2, 7, 12};
        Object[][] tests = {
            {"l=0", 1, 0}, {"l<0|l=0", 1, 0}, {"l=2", 0, 1}, {"o=2", 1, 0}, {"o=0", 0, 1}, {"t=7", 1, 1}, {"t<7", 0, 0}, {"t<8", 1, 1},
            {"t>7", 0, 0}, {"t>6", 1, 1}, {"d=12", 1, 0}, {"d=8", 0, 1}, {"d>10", 1, 0}, {"d<10", 0, 1}, {"!d<10", 1, 0},
            {"l=0&d=12", 1, 0}, {"l=0&d=11", 0, 0}, {"l=1|d=12", 1, 0}, {"l=0|d=1&d=2", 1, 0}, {"(l=0|d=1)&d=2", 0, 0},
            {"d=2&d=1|l=0", 1, 0}, {"!l=0|d=12", 1, 1}, {"!(l=0|d=12)", 0, 1}, {"!!l=0", 1, 0},
            {"!l=0&l=1", 0, 0}, {"t=07", 1, 1}, {"l=1|l=2|l=0", 1, 1}, {"t>1&t>2&t>9", 0, 0},
        };
        for (Object[] test : tests) {
            ElevenYards x = new ElevenYards();
            due((String) test[0], rule(x, "go 0 9 " + test[0] + ";go 2 1 t<99"), 0);
            x.player(0, 0, 0);
            weights(x, "kicker " + test[0], 0, 0, 0, state, 9 * (Integer) test[1], 0, 1);
            weights(x, "keeper " + test[0], 0, 0, 1, state, 9 * (Integer) test[2], 0, 1);
        }
        ElevenYards x = new ElevenYards();
        rule(x, "go 0 60 t<9;go 0 39 t<9;go 1 60 t<9;go 1 40 t<9;press 50 t<9;go 2 0 t<9");
        x.player(0, 0, 0);
        weights(x, "together, at most 99", 0, 0, 0, state, 99, 99, 0);
        weights(x, "nothing holds", 0, 0, 0, new int[] {3, 3, 9, 10}, 0, 1, 0);
    }

    private static void weightsByKind() {
        about("promise 10, kinds");
        ElevenYards x = withTable(0, 100);
        rule(x, "go 0 80 t<50;go 2 20 t<50");
        for (int kind = 0; kind < 7; kind++) x.player(kind, 0, 0);
        x.player(1, 1, 0);
        x.player(6, 2, 0);
        x.player(6, 1, 0);
        int[] never = {3, 3, 0, 10};
        weights(x, "PLAYER", 0, 0, 0, never, 80, 0, 20);
        weights(x, "OWN left", 1, 0, 0, never, 99, 0, 20);
        weights(x, "OWN middle", 7, 0, 0, never, 80, 30, 20);
        weights(x, "OWN without a rule that holds", 7, 0, 0, new int[] {3, 3, 50, 10}, 0, 30, 0);
        weights(x, "MIXED kicks", 2, 0, 0, never, 6, 7, 7);
        weights(x, "MIXED keeps", 0, 2, 1, never, 6, 6, 8);
        weights(x, "TURNING never went", 3, 0, 0, never, 80, 0, 20);
        weights(x, "TURNING went left", 3, 0, 0, new int[] {0, 2, 0, 10}, 0, 0, 20);
        weights(x, "TURNING keeps, went right", 0, 3, 1, new int[] {0, 2, 0, 10}, 80, 0, 0);
        weights(x, "TURNING, nothing left", 3, 0, 0, new int[] {1, 2, 50, 10}, 0, 1, 0);
        weights(x, "STAYING, v 0", 6, 0, 0, never, 6, 7, 7);
        weights(x, "STAYING, v 2", 8, 0, 0, never, 6, 17, 7);
        weights(x, "STAYING keeps, v 1", 0, 9, 1, never, 6, 11, 8);
    }

    private static void weightsThatHeed() {
        about("promise 10, kinds that heed");
        ElevenYards x = withTable(0, 100);
        rule(x, "go 0 10 t<50;go 2 20 t<50");
        for (int kind = 0; kind < 7; kind++) x.player(kind, 0, 0);
        int[] never = {3, 3, 0, 10};
        // Against 10, 0, 20 a kicker's best is the middle, a keeper's the right.
        weights(x, "WAITING kicks", 4, 0, 0, never, 40, 0, 20);
        weights(x, "WAITING keeps", 0, 4, 1, never, 40, 0, 60);
        weights(x, "NOTED kicks", 5, 0, 0, never, 0, 1, 0);
        weights(x, "NOTED keeps", 0, 5, 1, never, 0, 0, 1);
        // OWN left keeps 40, 0, 20; TURNING that went right keeps 10, 0, 0.
        weights(x, "NOTED against OWN", 5, 1, 0, never, 0, 1, 0);
        weights(x, "NOTED keeps against OWN", 1, 5, 1, never, 1, 0, 0);
        weights(x, "NOTED keeps against TURNING", 3, 5, 1, new int[] {2, 3, 0, 10}, 1, 0, 0);
        weights(x, "WAITING keeps against OWN, 120 is 99", 1, 4, 1, never, 99, 0, 20);
        weights(x, "WAITING kicks against MIXED 6, 6, 8", 4, 2, 0, never, 99, 0, 20);
        weights(x, "NOTED keeps against MIXED 6, 7, 7", 2, 5, 1, never, 0, 1, 0);
        weights(x, "WAITING against WAITING", 4, 4, 0, never, 40, 0, 20);
        weights(x, "WAITING against NOTED", 4, 5, 0, never, 40, 0, 20);
        weights(x, "NOTED against WAITING", 4, 5, 1, never, 6, 6, 8);
        weights(x, "NOTED against NOTED", 5, 5, 0, never, 6, 7, 7);
        weights(x, "NOTED keeps against NOTED", 5, 5, 1, never, 6, 6, 8);
        weights(x, "who is waited for does not heed", 0, 4, 0, never, 10, 0, 20);
    }

    private static void weightRefusals() {
        about("promises 10, 11, refusals");
        ElevenYards x = new ElevenYards();
        rule(x, "go 0 10 t<50");
        x.player(0, 0, 0);
        due("kicker", x.weight(1, 0, 0, 0, 3, 3, 0, 10), NONE);
        due("keeper", x.weight(0, -1, 0, 0, 3, 3, 0, 10), NONE);
        due("who", x.weight(0, 0, 2, 0, 3, 3, 0, 10), NONE);
        due("side", x.weight(0, 0, 0, 3, 3, 3, 0, 10), NONE);
        due("side ahead of the state", x.weight(0, 0, 0, -1, 4, 3, 0, 10), NONE);
        due("kicker", x.reply(-1, 0, 0, 3, 3, 0, 10), NONE);
        due("keeper", x.reply(0, 1, 0, 3, 3, 0, 10), NONE);
        due("who", x.reply(0, 0, -1, 3, 3, 0, 10), NONE);
        due("who ahead of the state", x.reply(0, 0, 2, 3, 3, 100, 10), NONE);
        int[][] states = {{4, 3, 0, 10}, {-1, 3, 0, 10}, {3, 4, 0, 10}, {3, -1, 0, 10}, {3, 3, 100, 10}, {3, 3, -1, 10},
            {3, 3, 0, 21}, {3, 3, 0, -1}};
        for (int[] s : states) {
            due("state", x.weight(0, 0, 0, 0, s[0], s[1], s[2], s[3]), BAD);
            due("state", x.reply(0, 0, 0, s[0], s[1], s[2], s[3]), BAD);
            due("state", x.odds(0, 0, 0, s[0], s[1], s[2], s[3], 0), NO);
        }
        due("the state's edge", x.weight(0, 0, 0, 0, 0, 0, 0, 0), 10);
        due("the state's edge", x.weight(0, 0, 0, 1, 3, 3, 99, 20), 1);
    }

    private static void reply() {
        about("promise 11");
        ElevenYards x = withTable(0, 100);
        rule(x, "go 0 10 t<50;go 2 20 t<50");
        rule(x, "go 0 10 t<50;go 1 10 t<50;go 2 10 t<50");
        rule(x, "go 2 10 t<50");
        for (int rule = 0; rule < 3; rule++) x.player(0, 0, rule);
        x.player(4, 0, 0);
        due("kicker", x.reply(0, 0, 0, 3, 3, 0, 10), 1);
        due("keeper", x.reply(0, 0, 1, 3, 3, 0, 10), 2);
        due("of several the least", x.reply(1, 1, 0, 3, 3, 0, 10), 0);
        due("of several the least", x.reply(1, 1, 1, 3, 3, 0, 10), 0);
        due("kicker, two as good", x.reply(0, 2, 0, 3, 3, 0, 10), 0);
        due("all 0: the middle", x.reply(0, 0, 1, 3, 3, 50, 10), 1);
        // WAITING kicks 40, 0, 20 (its reply is the middle): the keeper goes left.
        due("to one who waits", x.reply(3, 0, 1, 3, 3, 0, 10), 0);
    }

    private static void odds(ElevenYards x, String name, int kicker, int keeper, int what, int t, long above, long below) {
        long gotAbove = x.odds(kicker, keeper, what, 3, 3, t, 10, 0);
        fraction(name, gotAbove, x.odds(kicker, keeper, what, 3, 3, t, 10, 1), above, below);
    }

    private static ElevenYards forOdds() {
        ElevenYards x = withTable(0, 100);
        rule(x, "go 0 1 t<50;press 50 t=1;press 60 t=2;press 60 t=2");
        x.player(0, 0, 0);
        x.player(2, 0, 0);
        x.player(5, 0, 0);
        x.player(4, 1, 0);
        return x;
    }

    private static void odds() {
        about("promise 12, odds");
        ElevenYards x = forOdds();
        odds(x, "left against 6, 6, 8", 0, 1, 0, 0, 7, 10);
        odds(x, "half pressed", 0, 1, 0, 1, 7, 20);
        odds(x, "99 at most", 0, 1, 0, 2, 7, 1000);
        odds(x, "both left", 0, 0, 0, 0, 0, 1);
        odds(x, "6, 7, 7 against the left", 1, 0, 0, 0, 7, 10);
        odds(x, "a keeper is not pressed, a kicker of any kind is", 1, 0, 0, 1, 7, 20);
        odds(x, "6, 7, 7 against 6, 6, 8", 1, 1, 0, 0, (400 - 36 - 42 - 56) / 2, 200);
        x.table(0, 0, 100);
        odds(x, "sure", 0, 0, 0, 0, 1, 1);
        due("what", x.odds(0, 0, 2, 3, 3, 0, 10, 0), NO);
        due("what", x.odds(0, 0, -1, 3, 3, 0, 10, 0), NO);
        due("part", x.odds(0, 0, 0, 3, 3, 0, 10, 2), NO);
        due("part", x.odds(0, 0, 0, 3, 3, 0, 10, -1), NO);
        due("kicker", x.odds(4, 0, 0, 3, 3, 0, 10, 0), NO);
        due("keeper", x.odds(0, -1, 0, 3, 3, 0, 10, 0), NO);
    }

    private static void bottle() {
        about("promise 12, bottle");
        ElevenYards x = forOdds();
        odds(x, "a mixed keeper's", 0, 1, 1, 0, -7, 10);
        odds(x, "pressed", 0, 1, 1, 1, -7, 20);
        odds(x, "a noted one's", 0, 2, 1, 0, 0, 1);
        odds(x, "one who is right already", 0, 0, 1, 0, 0, 1);
        // Against NOTED the WAITING kicker (1, 30, 0) knows nothing, nor does NOTED: 6, 6, 8. Against the left the
        // kicker's reply is the middle: 1, 90, 0.
        odds(x, "a waiting kicker is not heeded", 3, 0, 1, 0, 7 * 91 - 900, 910);
    }

    private static void leak() {
        about("promise 13");
        ElevenYards x = forOdds();
        fraction("none", x.leak(0, 1, 0, 0, 10, 0), x.leak(0, 1, 0, 0, 10, 1), 7, 10);
        fraction("half", x.leak(0, 1, 50, 0, 10, 0), x.leak(0, 1, 50, 0, 10, 1), 7, 20);
        fraction("all", x.leak(0, 1, 100, 0, 10, 0), x.leak(0, 1, 100, 0, 10, 1), 0, 1);
        fraction("pressed", x.leak(0, 1, 50, 1, 10, 0), x.leak(0, 1, 50, 1, 10, 1), 7, 40);
        x.table(0, 1, 30);
        x.table(0, 0, 40);
        // Seen: 30. Else (6 * 40 + 6 * 30 + 8 * 100) / 20, by whatever REST is now.
        int[] keeps = {x.rest(1, 0), x.rest(1, 1), x.rest(1, 2)};
        long guessed = keeps[0] * 40 + keeps[1] * 30 + keeps[2] * 100;
        long above = x.leak(0, 1, 10, 0, 10, 0);
        long below = x.leak(0, 1, 10, 0, 10, 1);
        due("a tenth", above * 20 * 1000, below * (30 * 20 + 9 * guessed));
        due("n above", x.leak(0, 1, 101, 0, 10, 0), NO);
        due("n below", x.leak(0, 1, -1, 0, 10, 0), NO);
        due("t", x.leak(0, 1, 0, 100, 10, 0), NO);
        due("d", x.leak(0, 1, 0, 0, 21, 0), NO);
        due("d", x.leak(0, 1, 0, 0, -1, 0), NO);
        due("part", x.leak(0, 1, 0, 0, 10, 2), NO);
        due("kicker", x.leak(9, 1, 0, 0, 10, 0), NO);
        due("keeper", x.leak(0, 9, 0, 0, 10, 0), NO);
        ElevenYards never = withTable(0, 100);
        rule(never, "go 0 1 l=3&o=3;go 1 1 !l=3");
        never.player(0, 0, 0);
        fraction("l and o are 3", never.leak(0, 0, 0, 0, 10, 0), never.leak(0, 0, 0, 0, 10, 1), 0, 1);
    }

    private static void kicks() {
        about("promises 14 to 17");
        ElevenYards x = new ElevenYards();
        due("worst of none", x.shows(0), 0);
        due("runs of none", x.shows(1), 0);
        due("kick", x.kick(0, 2, true), 1);
        due("worst of one side", x.shows(0), 0);
        due("kick", x.kick(0, 0, false), 2);
        due("kick", x.kick(0, 0, false), 3);
        due("kick", x.kick(2, 0, true), 4);
        due("kick", x.kick(0, 1, true), 5);
        due("kick", x.kick(0, 1, true), 6);
        due("kick", x.kick(0, 1, true), 7);
        due("left", x.does(0), 666);
        due("middle", x.does(1), -5);
        due("right", x.does(2), 1000);
        due("worst", x.shows(0), 334);
        due("runs", x.shows(1), 3);
        x.kick(1, 1, false);
        due("worst", x.shows(0), 1000);
        due("side", x.kick(3, 0, true), NONE);
        due("keeper's side", x.kick(0, -1, true), NONE);
        due("side", x.does(3), NONE);
        due("side", x.does(-1), NONE);
        due("what", x.shows(2), NONE);
        due("what", x.shows(-1), NONE);
        due("clear", x.clear(), 8);
        due("clear", x.clear(), 0);
        due("does", x.does(0), -5);
        for (int i = 1; i <= 30; i++) due("kick", x.kick(1, 0, true), i);
        due("full", x.kick(1, 0, true), FULL);
        due("side ahead of full", x.kick(3, 0, true), NONE);
        due("one run", x.shows(1), 1);
        due("thirty", x.count(2), 30);
    }

    private static void likely(String sides, int above, int below) {
        ElevenYards x = new ElevenYards();
        for (int i = 0; i < sides.length(); i++) x.kick(sides.charAt(i) - '0', 0, true);
        fraction("likely " + sides, x.likely(0), x.likely(1), above, below);
        due("part", x.likely(2), NONE);
        due("part", x.likely(-1), NONE);
    }

    private static void likely() {
        about("promise 18");
        likely("", 1, 1);
        likely("1", 1, 1);
        likely("002", 1, 1);
        likely("020", 1, 3);
        likely("0022", 1, 1);
        likely("0220", 2, 3);
        likely("0202", 1, 3);
        likely("012", 1, 1);
        likely("000111222", 1, 1);
        // Of the 1680 orders of three times three 174 have no two alike side by side.
        likely("012012012", 29, 280);
        likely("0120120120", -9, -9);
    }

    private static void team() {
        about("promise 19");
        ElevenYards x = new ElevenYards();
        due("no player", x.team(0, 0, 0), NONE);
        rule(x, "go 0 1 t<50");
        x.player(0, 0, 0);
        x.player(1, 0, 0);
        due("nobody", x.team(0, 0, 1), -5);
        due("who it was", x.team(0, 0, 0), 1);
        due("who it was", x.team(0, 0, 0), 0);
        due("the other team", x.team(1, 0, 0), -5);
        due("the keeper", x.team(1, 5, 0), -5);
        due("team", x.team(2, 0, 0), NONE);
        due("team", x.team(-1, 0, 0), NONE);
        due("place", x.team(0, 6, 0), NONE);
        due("place", x.team(0, -1, 0), NONE);
        due("player", x.team(0, 0, 2), NONE);
        due("player", x.team(0, 0, -1), NONE);
    }

    /** Rule 0, player 0: always a goal; rule 1, player 1: one of a hundred when a test holds. All of player 0. */
    private static ElevenYards forShootOut(String test) {
        ElevenYards x = withTable(100, 100);
        rule(x, "go 0 1 t<50");
        rule(x, "press 99 " + test);
        x.player(0, 0, 0);
        x.player(0, 0, 1);
        for (int i = 0; i < 12; i++) x.team(i / 6, i % 6, 0);
        return x;
    }

    private static void win() {
        about("promise 20, win");
        due("all score", forShootOut("t>1").win(0), 500000);
        ElevenYards x = forShootOut("t>1");
        x.team(0, 4, 1);
        due("the last of A hardly scores", x.win(0), 5000);
        x.team(1, 4, 1);
        // A misses 99 of 100: then B scores 1 of 100, or all is drawn; A scores: B misses 99 of 100.
        due("the last of both", x.win(0), (10000L * 995000 + 990000L * 495000) / 1000000);
        x = forShootOut("d=10");
        x.team(1, 0, 1);
        due("d is told for who kicks: B's is 9 then", x.win(0), 500000);
        x = forShootOut("d=9");
        x.team(1, 0, 1);
        due("B's first hardly scores", x.win(0), 995000);
        x = forShootOut("l=3&o=3&t=9");
        x.team(1, 4, 1);
        due("l and o are 3", x.win(0), 995000);
        x = forShootOut("t=8");
        for (int i = 0; i < 9; i++) x.table(i / 3, i % 3, i / 3 == i % 3 ? 0 : 100);
        x.player(2, 0, 0);
        for (int i = 0; i < 5; i++) x.team(1, i, 2);
        // A and both keepers go left, B's kickers 6, 7, 7: A never scores, B seven times of ten. 0.3, five times, is drawn.
        due("the chances are the odds", x.win(0), 1215);
        due("what", x.win(2), -1000001);
        due("what", x.win(-1), -1000001);
        for (int gap = 0; gap < 12; gap++) {
            ElevenYards lacks = withTable(50, 50);
            rule(lacks, "go 0 1 t<50");
            lacks.player(0, 0, 0);
            for (int i = 0; i < 12; i++) if (i != gap) lacks.team(i / 6, i % 6, 0);
            due("a place has nobody", lacks.win(0), -1000002);
            due("a place has nobody", lacks.win(1), -1000002);
            due("a place has nobody", lacks.at(10, 0, 0), -1000002);
            due("a place has nobody", lacks.order(-1), -1000002);
            due("what ahead of that", lacks.win(2), -1000001);
        }
    }

    private static void first() {
        about("promise 20, first");
        due("all score", forShootOut("t>1").win(1), 0);
        ElevenYards x = forShootOut("t=8");
        x.team(0, 4, 1);
        due("A's last kicks at 9, if B goes first", x.win(1), 5000 - 500000);
        x = forShootOut("t=9");
        x.team(0, 4, 1);
        due("so he hardly scores then", x.win(1), 500000 - (1000000 - 995000));
        // A third of each kick, cut: not what one would have without the cuts.
        ElevenYards third = withTable(33, 33);
        rule(third, "go 0 1 t<50");
        third.player(0, 0, 0);
        for (int i = 0; i < 12; i++) third.team(i / 6, i % 6, 0);
        due("as good", third.win(1), third.win(0) * 2 - 1000000);
    }

    private static void at() {
        about("promise 21");
        ElevenYards x = withTable(50, 50);
        rule(x, "go 0 1 t<50");
        x.player(0, 0, 0);
        for (int i = 0; i < 12; i++) x.team(i / 6, i % 6, 0);
        due("won", x.at(10, 5, 4), 1000000);
        due("won", x.at(10, 1, 0), 1000000);
        due("drawn", x.at(10, 3, 3), 500000);
        due("drawn", x.at(10, 0, 0), 500000);
        due("lost", x.at(10, 0, 5), 0);
        due("B's last kick", x.at(9, 1, 1), 250000);
        due("B's last kick", x.at(9, 2, 1), 750000);
        due("A's last kick", x.at(8, 1, 1), 500000);
        due("can't be caught", x.at(7, 4, 1), 1000000);
        due("can't be caught", x.at(6, 0, 3), 0);
        due("at the start", x.at(0, 0, 0), x.win(0));
        due("turn", x.at(11, 0, 0), -1000001);
        due("turn", x.at(-1, 0, 0), -1000001);
        due("A's goals", x.at(0, 1, 0), -1000001);
        due("A's goals", x.at(1, 2, 0), -1000001);
        due("A's goals", x.at(10, 6, 0), -1000001);
        due("A's goals", x.at(5, -1, 0), -1000001);
        due("B's goals", x.at(1, 0, 1), -1000001);
        due("B's goals", x.at(3, 0, 2), -1000001);
        due("B's goals", x.at(5, 0, -1), -1000001);
        due("as many as there were", x.at(3, 2, 1) > 0 ? 1 : 0, 1);
        due("NONE ahead of STATE", new ElevenYards().at(11, 0, 0), -1000001);
        due("STATE", new ElevenYards().at(0, 0, 0), -1000002);
        ElevenYards third = withTable(33, 33);
        rule(third, "go 0 1 t<50;press 10 t=9");
        third.player(0, 0, 0);
        for (int i = 0; i < 12; i++) third.team(i / 6, i % 6, 0);
        due("cut", third.at(9, 1, 1), 703000 / 2);
        // 297000 at 9; A scores 330000: 0.33 * (297000 drawn, else won) and so on, each time cut.
        due("cut", third.at(8, 1, 1), (330000L * 851500 + 670000L * 351500) / 1000000);
    }

    private static void order() {
        about("promise 22");
        ElevenYards x = forShootOut("t>1");
        x.team(0, 4, 1);
        int[] want = {4, 0, 1, 2, 3};
        for (int i = 0; i < 5; i++) due("the shy one first", x.order(i), want[i]);
        due("its WIN", x.order(-1), 500000);
        due("the row is as it was", x.win(0), 5000);
        x.team(0, 4, 0);
        for (int i = 0; i < 5; i++) due("of several the first", x.order(i), i);
        x = forShootOut("t<3|t>5");
        x.team(0, 0, 1);
        int[] third = {1, 2, 0, 3, 4};
        for (int i = 0; i < 5; i++) due("second or third", x.order(i), third[i]);
        x = forShootOut("t>0&t<8");
        x.team(0, 2, 1);
        int[] last = {0, 1, 3, 4, 2};
        for (int i = 0; i < 5; i++) due("first or last: of several the first", x.order(i), last[i]);
        due("i", x.order(5), -1000001);
        due("i", x.order(-2), -1000001);
        due("NONE ahead of STATE", new ElevenYards().order(5), -1000001);
        due("STATE", new ElevenYards().order(4), -1000002);
    }

    private static void judged(String bytes, int from, int want) {
        ElevenYards x = new ElevenYards();
        x.tape(0, 0, bytes.length());
        for (int i = 0; i < bytes.length(); i++) x.item(0, i, bytes.charAt(i) - '0');
        due("judge " + bytes + " from " + from, x.judge(0, from), want);
    }

    private static void judge() {
        about("promise 23");
        judged("101010", 0, 1);
        judged("010101", 0, 2);
        judged("10101", 0, 1005);
        judged("1010100000", 0, 1);
        judged("1111111111", 0, 3);
        judged("0000000000", 0, 3);
        judged("0000000010", 0, 1);
        judged("0000000001", 0, 2);
        judged("000000001", 0, 1009);
        judged("11111111109", 0, 1);
        judged("1111111101", 0, 2);
        judged("2", 0, -10);
        judged("12", 0, -11);
        judged("1010109", 0, 1);
        judged("10101" + (char) ('0' - 1), 0, -15);
        judged("99101010", 2, 1);
        judged("9910", 2, 1002);
        judged("99101010", 8, 1000);
        judged("99101010", 9, 1000);
        judged("99101010", MAX, 1000);
        judged("99101010", -1, 1000);
        judged("99101010", MIN, 1000);
        judged("", 0, 1000);
        judged("0".repeat(60), 50, 3);
        judged("0".repeat(60), 51, 1009);
        judged("0".repeat(60), 59, 1001);
        ElevenYards x = new ElevenYards();
        due("nothing", x.judge(0, 0), 1000);
        for (int sort = 1; sort < 5; sort++) {
            x.tape(0, sort, 12);
            due("another sort", x.judge(0, 0), CAST);
            due("another sort ahead of the place", x.judge(0, -1), CAST);
        }
        due("tape", x.judge(6, 0), NONE);
        due("tape", x.judge(-1, 0), NONE);
    }

    private static void imageAndUndo() {
        about("promises 24, 25");
        ElevenYards x = withTable(0, 100);
        rule(x, "go 0 1 t<50");
        x.player(0, 0, 0);
        x.player(1, 0, 0);
        x.team(0, 3, 0);
        x.team(0, 0, 1);
        x.kick(0, 0, true);
        x.kick(2, 0, false);
        due("undo without", x.undo(), STATE);
        due("image", x.image(), 2);
        x.table(0, 0, 9);
        x.kick(1, 1, true);
        x.player(2, 0, 0);
        x.team(0, 3, 1);
        x.team(0, 0, 0);
        x.team(1, 5, 1);
        x.tape(2, 0, 1);
        feed(x, "go");
        due("undo", x.undo(), 2);
        due("the table", x.told(0, 0), 0);
        due("REST", x.rest(0, 3), 1300);
        due("kicks", x.shows(1), 2);
        due("kicks", x.does(1), -5);
        due("a member", x.team(0, 3, 0), 0);
        due("a keeper", x.team(1, 5, 0), -5);
        due("the first member", x.team(0, 0, 0), 1);
        due("players stay", x.count(0), 3);
        due("tapes stay", x.read(2, 0), 0);
        due("the text stays", x.count(3), 2);
        x.clear();
        x.kick(1, 1, true);
        due("again", x.undo(), 2);
        due("kicks as they were", x.does(0), 1000);
        due("kicks as they were", x.does(2), 0);
        x.clear();
        due("the newest image", x.image(), 0);
        x.kick(1, 1, true);
        due("undo", x.undo(), 0);
    }

    private static void acted(ElevenYards x, int player, int act, int want, int... bodies) {
        due("act " + player + " " + act, x.act(player, act, 5), want);
        due("how many ran", x.count(4), bodies.length);
        for (int i = 0; i < bodies.length; i++) due("trace of " + player + " " + act, x.trace(i), bodies[i]);
        due("behind the trace", x.trace(bodies.length), NONE);
    }

    private static void acts() {
        about("promises 26, 27");
        ElevenYards x = new ElevenYards();
        rule(x, "go 0 1 t<50");
        int[] v = {0, 1, 2, 0, 1, 2, 1};
        for (int kind = 0; kind < 7; kind++) x.player(kind, v[kind], 0);
        acted(x, 0, 0, 5, 10);
        acted(x, 0, 1, 5, 11, 10);
        acted(x, 0, 2, 10, 12, 11, 10);
        acted(x, 1, 0, 6, 10);
        acted(x, 1, 1, 3, 20, 11, 10);
        acted(x, 1, 2, 6, 12, 20, 11, 10);
        acted(x, 2, 0, 17, 30, 10);
        acted(x, 2, 1, 15, 11, 30, 10);
        acted(x, 2, 2, 30, 12, 11, 30, 10);
        acted(x, 3, 0, 8, 10);
        acted(x, 3, 1, 8, 11, 10);
        acted(x, 3, 2, 20, 40, 12, 11, 10, 11, 10);
        acted(x, 4, 0, -9, 50, 10);
        acted(x, 4, 1, -13, 51, 20, 11, 50, 10);
        acted(x, 4, 2, -26, 12, 51, 20, 11, 50, 10);
        acted(x, 5, 0, 20, 30, 10);
        acted(x, 5, 1, 18, 11, 30, 10);
        acted(x, 5, 2, 6, 60, 12, 11, 30, 10);
        acted(x, 6, 0, 20, 71, 30, 10);
        acted(x, 6, 1, 31, 70, 11, 71, 30, 10, 30, 10);
        acted(x, 6, 2, 62, 12, 70, 11, 71, 30, 10, 30, 10);
        due("trace below", x.trace(-1), NONE);
        due("wraps", x.act(0, 2, MAX), -2);
        due("wraps", x.act(4, 0, MIN), MAX - 3);
        acted(x, 7, 0, 0);
        x.act(0, 0, 5);
        acted(x, 0, 3, 0);
        x.act(0, 0, 5);
        acted(x, -1, -1, 0);
    }

    private static void taken() {
        about("promise 28");
        ElevenYards x = new ElevenYards();
        rule(x, "go 0 1 t<50");
        for (int kind = 0; kind < 7; kind++) x.player(kind, 0, 0);
        String[] taken = {"0", "01", "02", "03", "014", "025", "026"};
        for (int player = 0; player < 7; player++) {
            for (int k = 0; k < 7; k++) {
                due("taken " + player + " for " + k, x.taken(player, k), taken[player].contains("" + k) ? player : CAST);
            }
        }
        due("k", x.taken(0, 7), BAD);
        due("k", x.taken(0, -1), BAD);
        due("k ahead of the player", x.taken(7, 7), BAD);
        due("player", x.taken(7, 0), NOTHING);
        due("player", x.taken(-1, 6), NOTHING);
    }

    private static void count() {
        about("promise 29");
        ElevenYards x = new ElevenYards();
        rule(x, "go 0 1 t<50");
        rule(x, "go 0 1 t<50");
        for (int i = 0; i < 3; i++) x.player(0, 0, 0);
        for (int i = 0; i < 4; i++) x.kick(0, 0, true);
        feed(x, "press");
        x.act(0, 1, 0);
        int[] want = {3, 2, 4, 5, 2};
        for (int what = 0; what < 5; what++) due("count " + what, x.count(what), want[what]);
        due("what", x.count(5), BAD);
        due("what", x.count(-1), BAD);
    }

    private static void tapes() {
        about("promises 30 to 32");
        ElevenYards x = new ElevenYards();
        long v = 0x8899aabbccddeeffL;
        long[] want = {-1, (short) 0xeeff, 0xccddeeff, v, 1};
        for (int sort = 0; sort < 5; sort++) {
            due("tape", x.tape(sort, sort, 60), 1);
            due("all 0", x.read(sort, 59), 0);
            due("item", x.item(sort, 59, v), 1);
            due("read", x.read(sort, 59), want[sort]);
            due("item", x.item(sort, 0, 256), 1);
            due("read", x.read(sort, 0), new long[] {0, 256, 256, 256, 1}[sort]);
            due("item", x.item(sort, 0, 0), 1);
            due("read", x.read(sort, 0), 0);
            due("place", x.item(sort, 60, 0), PLACE);
            due("place", x.item(sort, -1, 0), PLACE);
            due("place", x.read(sort, 60), NO);
            due("place", x.read(sort, -1), NO);
        }
        due("made anew", x.tape(0, 0, 60), 1);
        due("all 0 again", x.read(0, 59), 0);
        due("none", x.tape(0, 3, 0), 1);
        due("no place", x.item(0, 0, 1), PLACE);
        due("no place", x.read(0, 0), NO);
        due("nothing, whatever n", x.tape(1, -1, MIN), 1);
        due("nothing", x.item(1, 0, 1), NOTHING);
        due("nothing ahead of the place", x.item(1, -1, 1), NOTHING);
        due("nothing", x.read(1, 0), NO);
        due("tape", x.tape(6, -1, 0), NONE);
        due("tape", x.tape(-1, 0, 0), NONE);
        due("tape ahead of sort", x.tape(6, 9, -1), NONE);
        due("sort", x.tape(2, 5, 0), BAD);
        due("sort", x.tape(2, -2, 0), BAD);
        due("sort ahead of size", x.tape(2, 5, -1), BAD);
        due("n above", x.tape(2, 0, 61), BAD);
        due("size", x.tape(2, 0, -1), SIZE);
        due("unchanged", x.read(2, 59), 0xccddeeff);
        due("item's tape", x.item(6, 0, 0), NONE);
        due("item's tape", x.item(-1, 0, 0), NONE);
        due("read's tape", x.read(6, 0), NO);
        due("read's tape", x.read(-1, 0), NO);
    }

    private static void row(ElevenYards x, int tape, int... want) {
        for (int i = 0; i < want.length; i++) due("item " + i + " of " + tape, x.read(tape, i), want[i]);
    }

    private static void shift() {
        about("promise 33");
        ElevenYards x = new ElevenYards();
        x.tape(0, 2, 5);
        x.tape(1, 2, 3);
        x.tape(2, 1, 3);
        for (int i = 0; i < 5; i++) x.item(0, i, i + 1);
        due("to another", x.shift(0, 1, 1, 0, 3), 3);
        row(x, 1, 2, 3, 4);
        due("forth within one", x.shift(0, 0, 0, 1, 4), 4);
        row(x, 0, 1, 1, 2, 3, 4);
        due("back within one", x.shift(0, 1, 0, 0, 4), 4);
        row(x, 0, 1, 2, 3, 4, 4);
        due("none", x.shift(0, 0, 1, 0, 0), 0);
        due("none at the ends", x.shift(0, 5, 1, 3, 0), 0);
        due("none beyond an end", x.shift(0, 6, 1, 0, 0), PLACE);
        due("none beyond the other's end", x.shift(0, 0, 1, 4, 0), PLACE);
        due("n below", x.shift(0, 0, 1, 0, -1), PLACE);
        due("i below", x.shift(0, -1, 1, 0, 1), PLACE);
        due("j below", x.shift(0, 0, 1, -1, 1), PLACE);
        due("beyond its end", x.shift(0, 3, 1, 0, 3), PLACE);
        due("beyond the other's end", x.shift(0, 0, 1, 1, 3), PLACE);
        due("far off", x.shift(0, MAX, 1, 0, MAX), PLACE);
        due("far off", x.shift(0, 1, 1, MAX, MAX), PLACE);
        due("unlike sorts ahead of the place", x.shift(0, -1, 2, 0, 1), CAST);
        due("nothing", x.shift(0, 0, 3, 0, 1), NOTHING);
        due("nothing ahead of the place", x.shift(3, -1, 3, 0, 1), NOTHING);
        due("tape", x.shift(6, 0, 3, 0, 1), NONE);
        due("tape", x.shift(0, 0, -1, 0, 1), NONE);
        row(x, 0, 1, 2, 3, 4, 4);
        row(x, 1, 2, 3, 4);
    }
}
