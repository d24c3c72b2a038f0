/** Promises 6 to 13: for each sentence on PLAYERS, WEIGHTS, REST, REPLY and ODDS that names an edge a test of its own. */
public final class WeightEdgesTest extends Checks {
    private static final int[] NEVER = {3, 3, 0, 10};

    public static void main(String[] args) {
        stateOfKicker();
        stateOfKeeper();
        playersAsTheyCome();
        kinds();
        numberV();
        playerRefuses();
        ofRefuses();
        plain();
        own();
        mixed();
        turning();
        waiting();
        noted();
        staying();
        atMost99();
        allNothing();
        pressed();
        restFirstRow();
        restBounds();
        restRefuses();
        gap();
        weightRefuses();
        replyLeast();
        replyRefuses();
        oddsLowestTerms();
        bottleBelowNothing();
        oddsRefuse();
        leakFromNoneToAll();
        leakNever();
        leakRefuses();
        end();
    }

    private static int weight(ElevenYards x, int kicker, int keeper, int who, int side, int[] s) {
        return x.weight(kicker, keeper, who, side, s[0], s[1], s[2], s[3]);
    }

    private static void weights(ElevenYards x, String name, int kicker, int keeper, int who, int[] state, int... want) {
        for (int side = 0; side < 3; side++) {
            due(name + ", side " + side, weight(x, kicker, keeper, who, side, state), want[side]);
        }
    }

    private static void odds(ElevenYards x, String name, int kicker, int keeper, int what, long above, long below) {
        fraction(name, x.odds(kicker, keeper, what, 3, 3, 0, 10, 0), x.odds(kicker, keeper, what, 3, 3, 0, 10, 1), above, below);
    }

    private static void leak(ElevenYards x, int n, int t, int d, long above, long below) {
        fraction("leak " + n, x.leak(0, 1, n, t, d, 0), x.leak(0, 1, n, t, d, 1), above, below);
    }

    /** A goal wherever both part, of rules that give the left 10 and the right 20, the left, the middle, the right 1. */
    private static ElevenYards ready() {
        ElevenYards x = withTable(0, 100);
        rule(x, "go 0 10 t<50;go 2 20 t<50");
        for (int side = 0; side < 3; side++) rule(x, "go " + side + " 1 t<50");
        return x;
    }

    private static ElevenYards readyFor(int kind, int v, String text) {
        ElevenYards x = withTable(0, 100);
        rule(x, text);
        x.player(kind, v, 0);
        return x;
    }

    private static void stateOfKicker() {
        sentence("A STATE of a kick: l, o (0 .. 3), t, d, told for the kicker");
        ElevenYards x = ready();
        x.player(0, 0, 0);
        int[][] low = {{0, 0, 0, 0}, {3, 3, 49, 20}};
        for (int[] s : low) weights(x, "an edge", 0, 0, 0, s, 10, 0, 20);
        weights(x, "the last turn", 0, 0, 0, new int[] {3, 3, 99, 20}, 0, 1, 0);
        int[] high = {3, 3, 99, 20};
        for (int number = 0; number < 4; number++) {
            for (int off : beside(0, high[number])) {
                int[] s = NEVER.clone();
                s[number] = off;
                due("weight, number " + number + " " + off, weight(x, 0, 0, 0, 0, s), BAD);
                due("weight of a keeper", weight(x, 0, 0, 1, 0, s), BAD);
                due("reply, number " + number + " " + off, x.reply(0, 0, 0, s[0], s[1], s[2], s[3]), BAD);
                due("odds, number " + number + " " + off, x.odds(0, 0, 0, s[0], s[1], s[2], s[3], 0), NO);
            }
        }
    }

    private static void keeperHolds(String e, boolean does, int l, int o, int t, int d) {
        ElevenYards x = readyFor(0, 0, "go 0 5 " + e);
        due("the keeper's " + e, x.weight(0, 0, 1, 0, l, o, t, d), does ? 5 : 0);
    }

    private static void stateOfKeeper() {
        sentence("the keeper's own l is that o, his o that l, his t the same, his d 20 less d");
        for (int l = 0; l <= 3; l++) {
            for (int o = 0; o <= 3; o++) {
                keeperHolds("l=" + o, true, l, o, 0, 10);
                keeperHolds("o=" + l, true, l, o, 0, 10);
                keeperHolds("l=" + l, l == o, l, o, 0, 10);
            }
        }
        keeperHolds("t=0", true, 3, 3, 0, 10);
        keeperHolds("t=99", true, 3, 3, 99, 10);
        for (int d = 0; d <= 20; d++) {
            keeperHolds("d=" + (20 - d), true, 3, 3, 0, d);
            keeperHolds("d=" + d, d == 10, 3, 3, 0, d);
        }
    }

    private static void playersAsTheyCome() {
        sentence("PLAYERS 0 .. 9, as they come, of KINDS");
        ElevenYards x = ready();
        for (int i = 0; i < 10; i++) {
            due("not yet", x.of(i, 0), NONE);
            due("his number", x.player(i % 7, i % 3, i % 4), i);
            due("how many", x.count(0), i + 1);
        }
        for (int i = 0; i < 10; i++) {
            due("kind", x.of(i, 0), i % 7);
            due("v", x.of(i, 1), i % 3);
            due("rule", x.of(i, 2), i % 4);
        }
        due("no eleventh", x.player(0, 0, 0), FULL);
        due("no eleventh", x.of(10, 0), NONE);
    }

    private static void kinds() {
        sentence("0 PLAYER; 1 OWN, 2 MIXED, 3 TURNING under PLAYER; 4 WAITING under OWN; 5 NOTED, 6 STAYING under MIXED.");
        ElevenYards x = ready();
        for (int kind = 0; kind < 7; kind++) due("kind", x.player(kind, 0, 0), kind);
        due("no kind 7", x.player(7, 0, 0), NONE);
        due("no kind -1", x.player(-1, 0, 0), NONE);
        int[] above = {0, 0, 0, 0, 1, 2, 2};
        for (int kind = 0; kind < 7; kind++) {
            for (int k = 0; k < 7; k++) {
                boolean is = k == kind || k == above[kind] || k == 0;
                due(kind + " taken for " + k, x.taken(kind, k), is ? kind : CAST);
            }
        }
    }

    private static void numberV() {
        sentence("Each has a number v (0 .. 2) and a RULE.");
        for (int kind = 0; kind < 7; kind++) {
            ElevenYards x = ready();
            for (int v = 0; v <= 2; v++) due("v " + v, x.player(kind, v, 3), v);
            for (int v : beside(0, 2)) due("v " + v, x.player(kind, v, 3), BAD);
            for (int v = 0; v <= 2; v++) due("his v", x.of(v, 1), v);
            due("his rule", x.of(2, 2), 3);
        }
    }

    private static void playerRefuses() {
        sentence("A PLAYER: his number. NONE: kind, rule; BAD: v; FULL: 10.");
        ElevenYards none = new ElevenYards();
        due("there is no rule", none.player(0, 0, 0), NONE);
        ElevenYards x = ready();
        for (int round = 0; round < 2; round++) {
            for (int kind : beside(0, 6)) due("kind " + kind, x.player(kind, 0, 0), NONE);
            for (int rule : beside(0, 3)) due("rule " + rule, x.player(0, 0, rule), NONE);
            for (int v : beside(0, 2)) due("v " + v, x.player(0, v, 0), BAD);
            due("kind ahead of v", x.player(7, 3, 0), NONE);
            due("rule ahead of v", x.player(0, 3, 4), NONE);
            due("how many", x.count(0), 10 * round);
            for (int i = 0; i < 10; i++) due("a player", x.player(0, 0, 0), round == 0 ? i : FULL);
        }
    }

    private static void ofRefuses() {
        sentence("Of a PLAYER what 0 KIND, 1 v, 2 RULE. NONE.");
        ElevenYards x = ready();
        x.player(6, 2, 3);
        due("kind", x.of(0, 0), 6);
        due("v", x.of(0, 1), 2);
        due("rule", x.of(0, 2), 3);
        for (int player : beside(0, 0)) due("player " + player, x.of(player, 0), NONE);
        for (int what : beside(0, 2)) due("what " + what, x.of(0, what), NONE);
    }

    private static void plain() {
        sentence("PLAYER: the n of all go of his RULE for that SIDE whose E holds, together.");
        ElevenYards x = readyFor(0, 2, "go 0 1 t=0;go 1 2 t=0;go 2 4 t=0;go 0 8 t=1;go 0 16 t<2;go 1 32 t>1;press 9 t=0");
        weights(x, "turn 0", 0, 0, 0, NEVER, 17, 2, 4);
        weights(x, "turn 1", 0, 0, 0, new int[] {3, 3, 1, 10}, 24, 0, 0);
        weights(x, "turn 2", 0, 0, 1, new int[] {3, 3, 2, 10}, 0, 32, 0);
    }

    private static void own() {
        sentence("OWN: so, and 30 more for SIDE v.");
        for (int v = 0; v <= 2; v++) {
            ElevenYards x = readyFor(1, v, "go 0 1 t=0;go 1 2 t=0;go 2 4 t=0");
            weights(x, "his side", 0, 0, v % 2, NEVER, v == 0 ? 31 : 1, v == 1 ? 32 : 2, v == 2 ? 34 : 4);
            int[] later = {3, 3, 1, 10};
            weights(x, "nothing holds", 0, 0, v % 2, later, v == 0 ? 30 : 0, v == 1 ? 30 : 0, v == 2 ? 30 : 0);
        }
    }

    private static void mixed() {
        sentence("MIXED: REST's (see 2).");
        ElevenYards x = readyFor(2, 0, "go 0 99 t<99");
        weights(x, "kicks", 0, 0, 0, NEVER, 6, 7, 7);
        weights(x, "keeps", 0, 0, 1, NEVER, 6, 6, 8);
        for (int i = 0; i < 9; i++) x.table(i / 3, i % 3, 50);
        weights(x, "all alike", 0, 0, 0, NEVER, 0, 0, 20);
        weights(x, "all alike", 0, 0, 1, NEVER, 0, 0, 20);
    }

    private static void turning() {
        sentence("TURNING: as PLAYER, 0 for the SIDE to which he went last.");
        ElevenYards x = readyFor(3, 0, "go 0 1 t=0;go 1 2 t=0;go 2 4 t=0");
        for (int last = 0; last <= 3; last++) {
            int other = (last + 1) % 4;
            int[] want = {last == 0 ? 0 : 1, last == 1 ? 0 : 2, last == 2 ? 0 : 4};
            weights(x, "kicks, went " + last, 0, 0, 0, new int[] {last, other, 0, 10}, want);
            weights(x, "keeps, went " + last, 0, 0, 1, new int[] {other, last, 0, 10}, want);
        }
    }

    /** One of each KIND, v 0, and then a WAITING one, a NOTED one, v 1. */
    private static ElevenYards readyToHeed() {
        ElevenYards x = ready();
        for (int kind = 0; kind < 7; kind++) x.player(kind, 0, 0);
        x.player(4, 1, 0);
        x.player(5, 1, 0);
        return x;
    }

    private static void waiting() {
        sentence("WAITING: as OWN, but 3 times as much for the SIDE that is his REPLY to the other one's WEIGHTS, if that one is not "
            + "WAITING or NOTED.");
        ElevenYards x = readyToHeed();
        // Against keepers: 10, 0, 20; 40, 0, 20; 6, 6, 8; 10, 0, 20; (none, none); 6, 6, 8. The kicker shuns them.
        int[] best = {1, 1, 0, 1, 3, 3, 0};
        // Against kickers: 10, 0, 20; 40, 0, 20; 6, 7, 7; 10, 0, 20; (none, none); 6, 7, 7. The keeper meets them.
        int[] keeps = {2, 0, 1, 2, 3, 3, 1};
        for (int other = 0; other < 7; other++) {
            int b = best[other], k = keeps[other];
            weights(x, "kicks against " + other, 7, other, 0, NEVER, b == 0 ? 30 : 10, b == 1 ? 90 : 30, b == 2 ? 60 : 20);
            weights(x, "keeps against " + other, other, 7, 1, NEVER, k == 0 ? 30 : 10, k == 1 ? 90 : 30, k == 2 ? 60 : 20);
        }
        weights(x, "against himself", 7, 7, 0, NEVER, 10, 30, 20);
    }

    private static void noted() {
        sentence("NOTED: 1 for the SIDE that is his REPLY to the other one's WEIGHTS, if that one is not WAITING or NOTED; else as MIXED.");
        ElevenYards x = readyToHeed();
        int[] best = {1, 1, 0, 1, 3, 3, 0};
        int[] keeps = {2, 0, 1, 2, 3, 3, 1};
        for (int other = 0; other < 7; other++) {
            int b = best[other], k = keeps[other];
            int[] kicks = b == 3 ? new int[] {6, 7, 7} : new int[] {b == 0 ? 1 : 0, b == 1 ? 1 : 0, b == 2 ? 1 : 0};
            int[] dives = k == 3 ? new int[] {6, 6, 8} : new int[] {k == 0 ? 1 : 0, k == 1 ? 1 : 0, k == 2 ? 1 : 0};
            weights(x, "kicks against " + other, 8, other, 0, NEVER, kicks);
            weights(x, "keeps against " + other, other, 8, 1, NEVER, dives);
        }
        weights(x, "against himself", 8, 8, 1, NEVER, 6, 6, 8);
    }

    private static void staying() {
        sentence("STAYING: as MIXED, and v times 5 more for the middle.");
        for (int v = 0; v <= 2; v++) {
            ElevenYards x = readyFor(6, v, "go 0 99 t<99");
            weights(x, "kicks", 0, 0, 0, NEVER, 6, 7 + 5 * v, 7);
            weights(x, "keeps", 0, 0, 1, NEVER, 6, 6 + 5 * v, 8);
        }
    }

    private static void leftIs(int kind, String text, int want) {
        ElevenYards x = readyFor(kind, 0, text);
        rule(x, "go 1 1 t<50");
        x.player(0, 0, 1);
        due("kind " + kind + " " + text, weight(x, 0, 1, 0, 0, NEVER), want);
    }

    private static void atMost99() {
        sentence("What is above 99 then is 99;");
        leftIs(0, "go 0 98 t<50", 98);
        leftIs(0, "go 0 99 t<50", 99);
        leftIs(0, "go 0 99 t<50;go 0 1 t<50", 99);
        leftIs(0, "go 0 99 t<50" + ";go 0 99 t<5".repeat(6), 99);
        leftIs(1, "go 0 68 t<50", 98);
        leftIs(1, "go 0 69 t<50", 99);
        leftIs(1, "go 0 70 t<50", 99);
        // Against the middle a kicker's REPLY is the left: 3 times 32, 33, 34 and 129.
        leftIs(4, "go 0 2 t<50", 96);
        leftIs(4, "go 0 3 t<50", 99);
        leftIs(4, "go 0 4 t<50", 99);
        leftIs(4, "go 0 99 t<50", 99);
        leftIs(3, "go 0 99 t<50;go 0 99 t<50", 99);
        ElevenYards x = readyFor(0, 0, "go 0 60 t<50;go 0 40 t<50;go 1 60 t<50;go 1 60 t<50");
        due("the reply is to what is left: 99, 99, 0", x.reply(0, 0, 1, 3, 3, 0, 10), 0);
        weights(x, "each side for itself", 0, 0, 0, NEVER, 99, 99, 0);
    }

    private static void allNothing() {
        sentence("if all are 0: 1 for the middle.");
        int[] later = {3, 3, 50, 10};
        weights(readyFor(0, 0, "go 0 9 t<50"), "nothing holds", 0, 0, 0, later, 0, 1, 0);
        weights(readyFor(0, 0, "go 0 9 t<50"), "nothing holds", 0, 0, 1, later, 0, 1, 0);
        weights(readyFor(0, 0, "press 9 t<99"), "no go", 0, 0, 0, later, 0, 1, 0);
        weights(readyFor(0, 0, "go 0 0 t<99;go 2 00 t<99"), "all of n 0", 0, 0, 0, later, 0, 1, 0);
        for (int last = 0; last <= 2; last++) {
            ElevenYards x = readyFor(3, 0, "go " + last + " 9 t<99");
            weights(x, "went there last", 0, 0, 0, new int[] {last, 3, 0, 10}, 0, 1, 0);
        }
        weights(readyFor(0, 0, "go 2 1 t<99"), "one is not", 0, 0, 0, NEVER, 0, 0, 1);
        weights(readyFor(0, 0, "go 0 1 t<99"), "one is not", 0, 0, 0, NEVER, 1, 0, 0);
        due("the reply is to the middle", readyFor(0, 0, "go 0 9 t<50").reply(0, 0, 1, 3, 3, 50, 10), 1);
    }

    private static void pressed() {
        sentence("PRESSED: of a kicker the n of all press of his RULE whose E holds, together (99 at most), of a hundred.");
        String[] texts = {"press 0 t=0", "press 1 t=0", "press 50 t=0", "press 98 t=0", "press 99 t=0", "press 60 t=0;press 38 t=0",
            "press 60 t=0;press 39 t=0", "press 60 t=0;press 40 t=0", "press 99 t=0;press 99 t=0", "press 50 t=0;press 49 t=1",
            "press 99 t=1", "go 0 99 t=0"};
        long[][] want = {{1, 1}, {99, 100}, {1, 2}, {1, 50}, {1, 100}, {1, 50}, {1, 100}, {1, 100}, {1, 100}, {1, 2}, {1, 1}, {1, 1}};
        for (int i = 0; i < texts.length; i++) {
            for (int kind = 0; kind < 7; kind++) {
                ElevenYards x = withTable(100, 100);
                rule(x, texts[i]);
                rule(x, "press 77 t=0");
                x.player(kind, 0, 0);
                x.player(kind, 0, 1);
                odds(x, texts[i] + " of kind " + kind, 0, 1, 0, want[i][0], want[i][1]);
            }
        }
    }

    private static void rest(ElevenYards x, String name, int who, int... want) {
        for (int what = 0; what < want.length; what++) due(name + " " + who + " " + what, x.rest(who, what), want[what]);
    }

    private static ElevenYards byKick(int left, int middle, int right) {
        ElevenYards x = new ElevenYards();
        for (int i = 0; i < 9; i++) x.table(i / 3, i % 3, i < 3 ? left : i < 6 ? middle : right);
        return x;
    }

    private static ElevenYards byKeeper(int left, int middle, int right) {
        ElevenYards x = new ElevenYards();
        for (int i = 0; i < 9; i++) x.table(i / 3, i % 3, i % 3 == 0 ? left : i % 3 == 1 ? middle : right);
        return x;
    }

    private static void restFirstRow() {
        sentence("of several the first as a row. FLOOR");
        for (int who = 0; who <= 1; who++) {
            rest(new ElevenYards(), "all alike", who, 0, 0, 20, 1000);
            rest(byKick(80, 80, 80), "all alike", who, 0, 0, 20, 1600);
        }
        rest(withTable(0, 100), "7 at most of one", 0, 6, 7, 7, 1300);
        rest(withTable(0, 100), "6 at least of each", 1, 6, 6, 8, 1400);
        rest(byKick(80, 80, 10), "left or middle", 0, 0, 20, 0, 1600);
        rest(byKick(80, 10, 80), "left or right", 0, 0, 0, 20, 1600);
        rest(byKick(10, 80, 80), "middle or right", 0, 0, 0, 20, 1600);
        rest(byKick(80, 10, 10), "left", 0, 20, 0, 0, 1600);
        rest(byKeeper(10, 10, 80), "left or middle", 1, 0, 20, 0, 200);
        rest(byKeeper(10, 80, 10), "left or right", 1, 0, 0, 20, 200);
        rest(byKeeper(80, 10, 10), "middle or right", 1, 0, 0, 20, 200);
        rest(byKeeper(10, 80, 80), "left", 1, 20, 0, 0, 200);
    }

    private static void restBounds() {
        sentence("FLOOR, CEILING: these chances, of 2000.");
        for (int n = 0; n <= 100; n += 50) {
            ElevenYards x = withTable(n, n);
            due("floor of " + n, x.rest(0, 3), 20 * n);
            due("ceiling of " + n, x.rest(1, 3), 20 * n);
        }
        ElevenYards x = byKick(0, 0, 100);
        due("a sure side's floor", x.rest(0, 3), 2000);
        due("a sure side's ceiling", x.rest(1, 3), 2000);
        x = byKeeper(0, 100, 100);
        due("a sure save's floor", x.rest(0, 3), 0);
        due("a sure save's ceiling", x.rest(1, 3), 0);
    }

    private static void restRefuses() {
        sentence("REST: who 0 the kicker, 1 the keeper: what 0 .. 2 twentieths of a SIDE, 3 FLOOR (who 0), CEILING (1). NONE.");
        ElevenYards x = withTable(0, 100);
        rest(x, "kicker", 0, 6, 7, 7, 1300);
        rest(x, "keeper", 1, 6, 6, 8, 1400);
        for (int who : beside(0, 1)) due("who " + who, x.rest(who, 0), NONE);
        for (int what : beside(0, 3)) due("what " + what, x.rest(what % 2 == 0 ? 0 : 1, what), NONE);
        due("both", x.rest(2, 4), NONE);
    }

    private static void gap() {
        sentence("GAP: CEILING less FLOOR.");
        due("all alike", new ElevenYards().gap(), 0);
        due("none at all", withTable(0, 0).gap(), 0);
        due("all sure", withTable(100, 100).gap(), 0);
        due("1400 less 1300", withTable(0, 100).gap(), 100);
        // 1400 less 20 times 6, and 1400 less 20 times 7.
        due("by the table as it is now", withTable(50, 70).gap(), 20);
    }

    private static void weightRefuses() {
        sentence("in a STATE told for the kicker. NONE: players, who, side; BAD: the STATE.");
        ElevenYards x = ready();
        due("no players yet", x.weight(0, 0, 0, 0, 3, 3, 0, 10), NONE);
        x.player(0, 0, 0);
        x.player(0, 0, 0);
        for (int d = 10; d <= 21; d += 11) {
            for (int p : beside(0, 1)) due("kicker " + p, x.weight(p, 0, 0, 0, 3, 3, 0, d), NONE);
            for (int p : beside(0, 1)) due("keeper " + p, x.weight(0, p, 0, 0, 3, 3, 0, d), NONE);
            for (int who : beside(0, 1)) due("who " + who, x.weight(0, 1, who, 0, 3, 3, 0, d), NONE);
            for (int side : beside(0, 2)) due("side " + side, x.weight(0, 1, 0, side, 3, 3, 0, d), NONE);
        }
        due("the state", x.weight(0, 1, 0, 0, 3, 3, 0, 21), BAD);
        due("the last of each", x.weight(1, 1, 1, 2, 3, 3, 49, 20), 20);
    }

    /** The REPLY of a kicker (who 0), a keeper (1) to one whose RULE gives the SIDES so much. */
    private static int replyTo(int who, int left, int middle, int right) {
        ElevenYards x = withTable(0, 100);
        rule(x, "go 0 " + left + " t<9;go 1 " + middle + " t<9;go 2 " + right + " t<9");
        x.player(0, 0, 0);
        return x.reply(0, 0, who, 3, 3, 0, 10);
    }

    private static void replyLeast() {
        sentence("the SIDE with the greatest (for a keeper: least) chance of a goal; of several the least.");
        due("kicker, one", replyTo(0, 2, 2, 1), 2);
        due("kicker, one", replyTo(0, 2, 1, 2), 1);
        due("kicker, one", replyTo(0, 1, 2, 2), 0);
        due("kicker, left or middle", replyTo(0, 1, 1, 2), 0);
        due("kicker, left or right", replyTo(0, 1, 2, 1), 0);
        due("kicker, middle or right", replyTo(0, 2, 1, 1), 1);
        due("kicker, all", replyTo(0, 1, 1, 1), 0);
        due("keeper, one", replyTo(1, 1, 1, 2), 2);
        due("keeper, one", replyTo(1, 1, 2, 1), 1);
        due("keeper, one", replyTo(1, 2, 1, 1), 0);
        due("keeper, left or middle", replyTo(1, 2, 2, 1), 0);
        due("keeper, left or right", replyTo(1, 2, 1, 2), 0);
        due("keeper, middle or right", replyTo(1, 1, 2, 2), 1);
        due("keeper, all", replyTo(1, 1, 1, 1), 0);
    }

    private static void replyRefuses() {
        sentence("to the WEIGHTS of the other one. NONE: players, who; BAD: the STATE.");
        ElevenYards x = ready();
        due("no players yet", x.reply(0, 0, 0, 3, 3, 0, 10), NONE);
        x.player(0, 0, 0);
        x.player(0, 0, 3);
        for (int t = 0; t <= 100; t += 100) {
            for (int p : beside(0, 1)) due("kicker " + p, x.reply(p, 0, 0, 3, 3, t, 10), NONE);
            for (int p : beside(0, 1)) due("keeper " + p, x.reply(0, p, 0, 3, 3, t, 10), NONE);
            for (int who : beside(0, 1)) due("who " + who, x.reply(0, 1, who, 3, 3, t, 10), NONE);
        }
        due("the state", x.reply(0, 1, 0, 3, 3, 100, 10), BAD);
        due("kicker to the right", x.reply(0, 1, 0, 3, 3, 0, 10), 0);
        due("keeper to 10, 0, 20", x.reply(0, 1, 1, 3, 3, 0, 10), 2);
    }

    private static void oddsLowestTerms() {
        sentence("times (100 less PRESSED) by 100: a fraction in lowest terms.");
        ElevenYards x = withTable(0, 0);
        rule(x, "go 0 97 t=0;go 2 2 t=0;press 1 t=1;go 0 97 t=1;go 2 2 t=1");
        rule(x, "go 0 1 t<9");
        x.player(0, 0, 0);
        x.player(0, 0, 1);
        odds(x, "never", 0, 1, 0, 0, 1);
        x.table(0, 0, 100);
        x.table(2, 0, 100);
        odds(x, "always", 0, 1, 0, 1, 1);
        x.table(0, 0, 50);
        x.table(2, 0, 50);
        odds(x, "half", 0, 1, 0, 1, 2);
        x.table(0, 0, 33);
        // 97 times 33 and 2 times 50 of 9900; with 99 of 100 of it.
        odds(x, "3301 of 9900", 0, 1, 0, 3301, 9900);
        fraction("less 1 of 100", x.odds(0, 1, 0, 3, 3, 1, 10, 0), x.odds(0, 1, 0, 3, 3, 1, 10, 1), 3301, 10000);
    }

    private static void bottleBelowNothing() {
        sentence("less those against him (a fraction, may be below 0).");
        ElevenYards x = withTable(0, 100);
        rule(x, "go 0 1 t<50");
        for (int kind = 0; kind < 7; kind++) x.player(kind, 0, 0);
        odds(x, "the left against 6, 6, 8: below 0", 0, 2, 1, -7, 10);
        odds(x, "the left against the left: 0", 0, 0, 1, 0, 1);
        odds(x, "NOTED himself: 0", 0, 5, 1, 0, 1);
        // The WAITING kicker goes left; NOTED knows nothing of him: 6, 6, 8.
        odds(x, "above 0", 4, 0, 1, 7, 10);
        odds(x, "both know nothing", 4, 5, 1, 0, 1);
        for (int i = 0; i < 9; i++) x.table(i / 3, i % 3, i % 3 == 0 ? 0 : 100);
        odds(x, "who keeps the left gains nothing", 0, 0, 1, 0, 1);
        rule(x, "go 1 1 t<50");
        x.player(0, 0, 1);
        odds(x, "always less never", 0, 7, 1, -1, 1);
        x.table(0, 0, 75);
        x.table(0, 1, 80);
        x.table(0, 2, 90);
        rule(x, "go 1 2 t<50;go 2 1 t<50");
        x.player(0, 0, 2);
        odds(x, "3 of 4 less 5 of 6", 0, 8, 1, -1, 12);
    }

    private static void oddsRefuse() {
        sentence("ODDS (what 0), BOTTLE (1); part 0 above, 1 below the line. NO: players, the STATE, what, part.");
        ElevenYards x = ready();
        due("no players yet", x.odds(0, 0, 0, 3, 3, 0, 10, 0), NO);
        x.player(0, 0, 1);
        x.player(0, 0, 1);
        for (int what = 0; what <= 1; what++) {
            for (int p : beside(0, 1)) due("kicker " + p, x.odds(p, 0, what, 3, 3, 0, 10, 0), NO);
            for (int p : beside(0, 1)) due("keeper " + p, x.odds(0, p, what, 3, 3, 0, 10, 1), NO);
            for (int l : beside(0, 3)) due("l " + l, x.odds(0, 1, what, l, 3, 0, 10, 0), NO);
            for (int o : beside(0, 3)) due("o " + o, x.odds(0, 1, what, 3, o, 0, 10, 0), NO);
            for (int t : beside(0, 99)) due("t " + t, x.odds(0, 1, what, 3, 3, t, 10, 0), NO);
            for (int d : beside(0, 20)) due("d " + d, x.odds(0, 1, what, 3, 3, 0, d, 0), NO);
            for (int part : beside(0, 1)) due("part " + part, x.odds(0, 1, what, 3, 3, 0, 10, part), NO);
            odds(x, "what " + what, 0, 1, what, 0, 1);
        }
        for (int what : beside(0, 1)) due("what " + what, x.odds(0, 1, what, 3, 3, 0, 10, 0), NO);
        due("the edges are none of them", x.odds(1, 1, 1, 0, 0, 0, 0, 1), 1);
        due("the edges are none of them", x.odds(1, 1, 1, 3, 3, 99, 20, 1), 1);
    }

    /** One who goes left against 6, 6, 8: a goal in 7 of 10. */
    private static ElevenYards readyToLeak() {
        ElevenYards x = withTable(0, 100);
        rule(x, "go 0 1 t=0;go 0 1 t=99;press 50 t=1;go 0 1 t=1");
        x.player(0, 0, 0);
        x.player(2, 0, 0);
        return x;
    }

    private static void leakFromNoneToAll() {
        sentence("LEAK n (0 .. 100): ODDS, if the keeper sees in n of a hundred to which SIDE the kick goes");
        ElevenYards x = readyToLeak();
        leak(x, 0, 0, 10, 7, 10);
        leak(x, 1, 0, 10, 693, 1000);
        leak(x, 50, 0, 10, 7, 20);
        leak(x, 99, 0, 10, 7, 1000);
        leak(x, 100, 0, 10, 0, 1);
        leak(x, 50, 1, 10, 7, 40);
        due("below", x.leak(0, 1, -1, 0, 10, 0), NO);
        due("above", x.leak(0, 1, 101, 0, 10, 0), NO);
        for (int keeper = 0; keeper < 3; keeper++) x.table(0, keeper, 30 - 10 * keeper);
        leak(x, 100, 0, 10, 1, 10);
        for (int keeper = 0; keeper < 3; keeper++) x.table(0, keeper, 100);
        leak(x, 100, 0, 10, 1, 1);
    }

    private static void leakNever() {
        sentence("LEAK n, t, d being as told, l and o 3.");
        String[] holds = {"l=3", "o=3", "t=7", "d=12", "l>2&o>2", "t<8&t>6", "d<13&d>11"};
        for (String e : holds) {
            ElevenYards x = withTable(0, 100);
            rule(x, "go 0 1 " + e + ";go 1 1 !(" + e + ")");
            rule(x, "go 0 1 t<99");
            x.player(0, 0, 0);
            x.player(0, 0, 1);
            leak(x, 0, 7, 12, 0, 1);
            fraction("the keeper's own l, o, t", x.leak(1, 0, 0, 7, 12, 0), x.leak(1, 0, 0, 7, 12, 1), e.contains("d") ? 1 : 0, 1);
        }
    }

    private static void leakRefuses() {
        sentence("l and o 3. NO: players, n, t, d, part.");
        ElevenYards x = readyToLeak();
        for (int p : beside(0, 1)) due("kicker " + p, x.leak(p, 1, 0, 0, 10, 0), NO);
        for (int p : beside(0, 1)) due("keeper " + p, x.leak(0, p, 0, 0, 10, 0), NO);
        for (int n : beside(0, 100)) due("n " + n, x.leak(0, 1, n, 0, 10, 0), NO);
        for (int t : beside(0, 99)) due("t " + t, x.leak(0, 1, 0, t, 10, 0), NO);
        for (int d : beside(0, 20)) due("d " + d, x.leak(0, 1, 0, 0, d, 0), NO);
        for (int part : beside(0, 1)) due("part " + part, x.leak(0, 1, 0, 0, 10, part), NO);
        leak(x, 0, 99, 0, 7, 10);
        leak(x, 0, 99, 20, 7, 10);
        due("no players", new ElevenYards().leak(0, 0, 0, 0, 10, 0), NO);
    }
}
