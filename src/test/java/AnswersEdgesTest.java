import java.util.ArrayList;
import java.util.List;
import java.util.function.Supplier;
import java.util.function.ToLongFunction;

/**
 * The document's sentences on answers: which refusal comes first, and that neither a refusal nor a question changes
 * anything. For the latter two objects are made alike; one of them is asked, and then both must tell the same.
 */
public final class AnswersEdgesTest extends Checks {
    public static void main(String[] args) {
        constants();
        firstNamed();
        changesAreSeen();
        refusalsOfTheFirstCalls();
        refusalsOfOddsCalls();
        refusalsOfKickCalls();
        refusalsOfTapeCalls();
        refusalsWhenFull();
        refusalsWhenBare();
        questions();
        end();
    }

    private static ElevenYards bare() {
        return new ElevenYards();
    }

    /** All is in use, THE IMAGE is another one than what is now, and THE TEXT lacks a figure. */
    private static ElevenYards ready() {
        ElevenYards x = new ElevenYards();
        rule(x, "go 0 10 t<50;go 2 20 l=3;press 5 d<10");
        rule(x, "go 1 7 t<9;press 30 t>4");
        for (int kind = 0; kind < 7; kind++) x.player(kind, kind % 3, kind % 2);
        for (int i = 0; i < 9; i++) x.table(i / 3, i % 3, 9 * i);
        for (int i = 0; i < 12; i++) x.team(i / 6, i % 6, 6 - i % 7);
        for (int i = 0; i < 4; i++) x.kick(i % 2, 0, true);
        x.image();
        for (int i = 0; i < 9; i++) x.table(i / 3, i % 3, i / 3 == i % 3 ? 20 + i : 95 - 3 * i);
        for (int i = 0; i < 12; i++) x.team(i / 6, i % 6, i % 7);
        x.kick(2, 1, false);
        for (int sort = 0; sort <= 4; sort++) {
            x.tape(sort, sort, 5);
            for (int i = 0; i < 5; i++) x.item(sort, i, i % 2);
        }
        x.act(6, 2, 9);
        feed(x, "go 0 1 l=");
        return x;
    }

    /** As ready, but RULES, PLAYERS, KICKS and THE TEXT are at their most. */
    private static ElevenYards full() {
        ElevenYards x = ready();
        feed(x, "3");
        for (int rules = 2; rules < 7; rules++) {
            x.rule();
            feed(x, "go 0 1 l=3");
        }
        feed(x, "|l=1".repeat(22) + "|l");
        for (int players = 7; players < 10; players++) x.player(0, 1, 1);
        for (int kicks = 5; kicks < 30; kicks++) x.kick(kicks % 3, 0, false);
        return x;
    }

    /** All that an object can tell; what it tells last it tells by being changed. */
    private static List<Long> tellAll(ElevenYards x) {
        List<Long> all = new ArrayList<>();
        for (int what = 0; what <= 4; what++) all.add((long) x.count(what));
        for (int i = 0; i < 8; i++) all.add((long) x.rest(i / 4, i % 4));
        for (int i = 0; i < 30; i++) all.add((long) x.of(i / 3, i % 3));
        for (int i = 0; i < 9; i++) all.add(x.odds(i, 8 - i, i % 2, 3, 3, i, 10, 0));
        for (int i = 0; i < 9; i++) all.add((long) x.trace(i));
        for (int i = 0; i < 42; i++) all.add(x.read(i / 7, i % 7));
        for (int tape = 0; tape < 6; tape++) all.add((long) x.judge(tape, 0));
        tellKicks(x, all);
        tellShootOut(x, all);
        for (int i = 0; i < 12; i++) all.add((long) x.team(i / 6, i % 6, 0));
        all.add((long) x.undo());
        tellKicks(x, all);
        tellShootOut(x, all);
        for (int i = 0; i < 12; i++) all.add((long) x.team(i / 6, i % 6, 1));
        all.add((long) x.feed('3', 1));
        all.add((long) x.rule());
        all.add((long) x.player(0, 0, x.count(1) - 1));
        for (int side = 0; side < 3; side++) all.add((long) x.weight(7, 7, 0, side, 3, 3, 0, 10));
        return all;
    }

    private static void tellKicks(ElevenYards x, List<Long> all) {
        for (int i = 0; i < 9; i++) all.add((long) x.told(i / 3, i % 3));
        for (int side = 0; side < 3; side++) all.add((long) x.does(side));
        for (int what = 0; what < 2; what++) all.add((long) x.shows(what));
        for (int part = 0; part < 2; part++) all.add((long) x.likely(part));
        all.add((long) x.gap());
    }

    private static void tellShootOut(ElevenYards x, List<Long> all) {
        for (int what = 0; what < 2; what++) all.add((long) x.win(what));
        for (int turn = 0; turn <= 10; turn++) all.add((long) x.at(turn, turn / 2, turn / 4));
        for (int i = -1; i < 5; i++) all.add((long) x.order(i));
    }

    private static void still(String call, Supplier<ElevenYards> made, ToLongFunction<ElevenYards> asks, long want) {
        ElevenYards asked = made.get();
        due(call, asks.applyAsLong(asked), want);
        List<Long> got = tellAll(asked), were = tellAll(made.get());
        for (int i = 0; i < were.size(); i++) due(call + ", what is told " + i, got.get(i), were.get(i));
    }

    private static void refused(String call, ToLongFunction<ElevenYards> asks, long want) {
        still(call, AnswersEdgesTest::ready, asks, want);
    }

    private static void asked(String call, ToLongFunction<ElevenYards> asks) {
        ElevenYards x = ready();
        long first = asks.applyAsLong(x);
        still(call, AnswersEdgesTest::ready, asks, first);
        due(call + " again", asks.applyAsLong(x), first);
    }

    private static void constants() {
        sentence("Answers: NONE (-1) no such number; BAD (-2) a number is not as told; STATE (-3) as told; FULL (-4);");
        due("NONE", ElevenYards.NONE, -1);
        due("BAD", ElevenYards.BAD, -2);
        due("STATE", ElevenYards.STATE, -3);
        due("FULL", ElevenYards.FULL, -4);
        sentence("`NO = Long.MIN_VALUE`: There is no such number.");
        due("NO", ElevenYards.NO, Long.MIN_VALUE);
        due("no such item", bare().read(0, 0), ElevenYards.NO);
    }

    private static void firstNamed() {
        sentence("the first that a call's words name.");
        ElevenYards x = ready(), f = full(), b = bare();
        due("table: NONE, BAD", x.table(3, 0, 101), NONE);
        due("feed: BAD, FULL", f.feed(0, 5), BAD);
        due("rule: FULL, the FAULT", f.rule(), FULL);
        due("player: NONE, BAD", x.player(7, 3, 0), NONE);
        due("player: NONE, FULL", f.player(0, 0, 7), NONE);
        due("player: BAD, FULL", f.player(0, 3, 0), BAD);
        due("weight: NONE, BAD", x.weight(0, 0, 0, 3, 4, 4, 100, 21), NONE);
        due("reply: NONE, BAD", x.reply(0, 0, 2, 4, 4, 100, 21), NONE);
        due("kick: NONE, FULL", f.kick(3, 0, true), NONE);
        due("does: NONE, not -5", b.does(3), NONE);
        due("likely: NONE, not -9", f.likely(2), NONE);
        due("team: NONE", b.team(0, 0, 0), NONE);
        due("win: NONE, STATE", b.win(2), WIN_NONE);
        due("at: NONE, STATE", b.at(0, 1, 0), WIN_NONE);
        due("order: NONE, STATE", b.order(5), WIN_NONE);
        due("judge: CAST, not 1000", x.judge(1, -1), CAST);
        due("taken: BAD, NOTHING", x.taken(9, 7), BAD);
        due("tape: NONE, BAD", x.tape(6, 5, 61), NONE);
        due("tape: NONE, SIZE", x.tape(6, 0, -1), NONE);
        due("tape: BAD, SIZE", x.tape(0, 5, -1), BAD);
        due("item: NONE, PLACE", x.item(6, -1, 0), NONE);
        due("item: NOTHING, PLACE", x.item(5, -1, 0), NOTHING);
        due("shift: NONE, NOTHING", x.shift(5, 0, 6, 0, 1), NONE);
        due("shift: NOTHING, PLACE", x.shift(0, -1, 5, 0, 1), NOTHING);
        due("shift: CAST, PLACE", x.shift(0, -1, 1, 0, 1), CAST);
    }

    private static void seen(String call, ToLongFunction<ElevenYards> changes) {
        ElevenYards x = ready();
        changes.applyAsLong(x);
        due(call + " is seen", tellAll(x).equals(tellAll(ready())) ? 0 : 1, 1);
    }

    /** Without this the tests behind it would say little. */
    private static void changesAreSeen() {
        about("what the tests of refusals look at tells each change");
        for (int i = 0; i < 9; i++) {
            int kick = i / 3, keeper = i % 3;
            seen("table", x -> x.table(kick, keeper, 1));
        }
        seen("feed", x -> x.feed('1', 1));
        seen("rule", x -> x.rule());
        seen("player", x -> x.player(0, 0, 0));
        seen("kick", x -> x.kick(0, 0, true));
        seen("clear", x -> x.clear());
        for (int i = 0; i < 12; i++) {
            int team = i / 6, place = i % 6, player = (i + 1) % 7;
            seen("team", x -> x.team(team, place, player));
        }
        seen("image", x -> x.image());
        seen("undo", x -> x.undo());
        seen("act", x -> x.act(0, 0, 0));
        seen("act of nobody", x -> x.act(9, 0, 0));
        seen("tape", x -> x.tape(0, 0, 5));
        seen("tape of nothing", x -> x.tape(4, -1, 0));
        seen("item", x -> x.item(3, 4, 7));
        seen("shift", x -> x.shift(2, 0, 2, 1, 1));
    }

    private static void refusalsOfTheFirstCalls() {
        sentence("What is answered so changes nothing;");
        refused("table, kick", x -> x.table(3, 0, 1), NONE);
        refused("table, keeper", x -> x.table(0, -1, 1), NONE);
        refused("table, n", x -> x.table(0, 0, 101), BAD);
        refused("told", x -> x.told(0, 3), NONE);
        refused("feed, above", x -> x.feed(-1, 5), BAD);
        refused("feed, below", x -> x.feed(-1, -1), BAD);
        refused("player, kind", x -> x.player(7, 0, 0), NONE);
        refused("player, rule", x -> x.player(0, 0, 2), NONE);
        refused("player, v", x -> x.player(0, 3, 0), BAD);
        refused("of, player", x -> x.of(7, 0), NONE);
        refused("of, what", x -> x.of(0, 3), NONE);
        refused("team, team", x -> x.team(2, 0, 6), NONE);
        refused("team, place", x -> x.team(0, 6, 6), NONE);
        refused("team, player", x -> x.team(0, 0, 7), NONE);
    }

    private static void refusalsOfOddsCalls() {
        sentence("What is answered so changes nothing;");
        refused("rest, who", x -> x.rest(2, 0), NONE);
        refused("rest, what", x -> x.rest(0, 4), NONE);
        refused("weight, kicker", x -> x.weight(7, 0, 0, 0, 3, 3, 0, 10), NONE);
        refused("weight, side", x -> x.weight(0, 0, 0, 3, 3, 3, 0, 10), NONE);
        refused("weight, state", x -> x.weight(0, 0, 0, 0, 4, 3, 0, 10), BAD);
        refused("reply, keeper", x -> x.reply(0, 7, 0, 3, 3, 0, 10), NONE);
        refused("reply, state", x -> x.reply(0, 0, 0, 3, 3, 100, 10), BAD);
        refused("odds, what", x -> x.odds(0, 0, 2, 3, 3, 0, 10, 0), NO);
        refused("odds, state", x -> x.odds(0, 0, 1, 3, 4, 0, 10, 0), NO);
        refused("leak, n", x -> x.leak(0, 0, 101, 0, 10, 0), NO);
        refused("leak, d", x -> x.leak(0, 0, 0, 0, 21, 0), NO);
    }

    private static void refusalsOfKickCalls() {
        sentence("What is answered so changes nothing;");
        refused("kick, side", x -> x.kick(3, 0, true), NONE);
        refused("kick, keeper", x -> x.kick(0, 3, true), NONE);
        refused("does", x -> x.does(3), NONE);
        refused("shows", x -> x.shows(2), NONE);
        refused("likely", x -> x.likely(2), NONE);
        refused("win", x -> x.win(2), WIN_NONE);
        refused("at, turn", x -> x.at(11, 0, 0), WIN_NONE);
        refused("at, goals", x -> x.at(3, 3, 0), WIN_NONE);
        refused("order", x -> x.order(5), WIN_NONE);
    }

    private static void refusalsOfTapeCalls() {
        sentence("What is answered so changes nothing;");
        refused("judge, tape", x -> x.judge(6, 0), NONE);
        refused("judge, sort", x -> x.judge(1, 0), CAST);
        refused("trace", x -> x.trace(8), NONE);
        refused("taken, k", x -> x.taken(0, 7), BAD);
        refused("taken, player", x -> x.taken(7, 0), NOTHING);
        refused("taken, kind", x -> x.taken(0, 1), CAST);
        refused("count", x -> x.count(5), BAD);
        refused("tape, tape", x -> x.tape(6, 0, 1), NONE);
        refused("tape, sort", x -> x.tape(0, 5, 1), BAD);
        refused("tape, n", x -> x.tape(0, 1, 61), BAD);
        refused("tape, size", x -> x.tape(0, 1, -1), SIZE);
        refused("item, tape", x -> x.item(6, 0, 7), NONE);
        refused("item, nothing", x -> x.item(5, 0, 7), NOTHING);
        refused("item, place", x -> x.item(0, 5, 7), PLACE);
        refused("read, place", x -> x.read(0, 5), NO);
        refused("read, nothing", x -> x.read(5, 0), NO);
        refused("shift, tape", x -> x.shift(0, 0, 6, 0, 1), NONE);
        refused("shift, nothing", x -> x.shift(0, 0, 5, 0, 1), NOTHING);
        refused("shift, sorts", x -> x.shift(0, 0, 1, 1, 1), CAST);
        refused("shift, place", x -> x.shift(0, 0, 0, 1, 5), PLACE);
    }

    private static void refusalsWhenFull() {
        sentence("What is answered so changes nothing;");
        int[] most = {10, 7, 30, 100};
        for (int what = 0; what < 4; what++) due("at its most", full().count(what), most[what]);
        still("feed", AnswersEdgesTest::full, x -> x.feed(-1, 1), FULL);
        still("feed", AnswersEdgesTest::full, x -> x.feed(-1, 4), FULL);
        still("rule", AnswersEdgesTest::full, x -> x.rule(), FULL);
        still("player", AnswersEdgesTest::full, x -> x.player(6, 2, 0), FULL);
        still("kick", AnswersEdgesTest::full, x -> x.kick(1, 1, true), FULL);
        still("likely", AnswersEdgesTest::full, x -> x.likely(0), -9);
    }

    private static void refusalsWhenBare() {
        sentence("What is answered so changes nothing;");
        still("undo", AnswersEdgesTest::bare, x -> x.undo(), STATE);
        still("win", AnswersEdgesTest::bare, x -> x.win(0), WIN_STATE);
        still("at", AnswersEdgesTest::bare, x -> x.at(0, 0, 0), WIN_STATE);
        still("order", AnswersEdgesTest::bare, x -> x.order(0), WIN_STATE);
        still("player", AnswersEdgesTest::bare, x -> x.player(0, 0, 0), NONE);
        still("team", AnswersEdgesTest::bare, x -> x.team(0, 0, 0), NONE);
        still("judge", AnswersEdgesTest::bare, x -> x.judge(0, 0), 1000);
    }

    private static void questions() {
        sentence("what is asked changes nothing.");
        asked("told", x -> x.told(1, 2));
        asked("of", x -> x.of(3, 1));
        asked("rest", x -> x.rest(1, 3));
        asked("gap", x -> x.gap());
        for (int kind = 0; kind < 7; kind++) {
            int player = kind;
            asked("weight", x -> x.weight(player, 6 - player, 0, 1, 2, 1, 4, 6));
            asked("reply", x -> x.reply(player, 6 - player, 1, 2, 1, 4, 6));
            asked("odds", x -> x.odds(player, 6 - player, 0, 2, 1, 4, 6, 0));
            asked("bottle", x -> x.odds(player, 6 - player, 1, 2, 1, 4, 6, 1));
            asked("leak", x -> x.leak(player, 6 - player, 50, 4, 6, 0));
            asked("taken", x -> x.taken(player, 0));
        }
        asked("does", x -> x.does(0));
        asked("worst", x -> x.shows(0));
        asked("runs", x -> x.shows(1));
        asked("likely", x -> x.likely(0));
        asked("win", x -> x.win(0));
        asked("first", x -> x.win(1));
        asked("at", x -> x.at(5, 2, 1));
        asked("order", x -> x.order(-1));
        asked("order", x -> x.order(4));
        asked("judge", x -> x.judge(0, 0));
        asked("trace", x -> x.trace(3));
        for (int what = 0; what < 5; what++) {
            int of = what;
            asked("count", x -> x.count(of));
            asked("read", x -> x.read(of, 3));
        }
    }
}
