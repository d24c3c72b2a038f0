/** Promises 24 to 29: for each sentence on THE IMAGE, ACTS and counts that names an edge a test of its own. */
public final class ActEdgesTest extends Checks {
    public static void main(String[] args) {
        imageTaken();
        undone();
        imageHolds();
        othersStay();
        wrapping();
        bodiesOfKinds();
        bodiesUnder();
        bodiesAbove();
        bodiesOfSuper();
        fromTheLeft();
        traceOfTheLatest();
        actOfNobody();
        traceRefuses();
        takenRefuses();
        countRefuses();
        countOfBodies();
        end();
    }

    /** One of each KIND, v 0, so that each one's number is his KIND. */
    private static ElevenYards ofEachKind() {
        ElevenYards x = new ElevenYards();
        rule(x, "go 0 1 t<50");
        for (int kind = 0; kind < 7; kind++) x.player(kind, 0, 0);
        return x;
    }

    private static void imageTaken() {
        sentence("THE IMAGE is taken: how many KICKS there are.");
        ElevenYards x = new ElevenYards();
        due("none", x.image(), 0);
        for (int i = 1; i <= 30; i++) {
            x.kick(1, 1, true);
            due("as many as now", x.image(), i);
        }
        x.clear();
        due("the newest one counts", x.undo(), 30);
        x.clear();
        due("none again", x.image(), 0);
        x.kick(1, 1, true);
        due("the newest one counts", x.undo(), 0);
    }

    private static void undone() {
        sentence("All is as THE IMAGE: how many KICKS. STATE: there is none.");
        ElevenYards x = new ElevenYards();
        due("none yet", x.undo(), STATE);
        x.kick(0, 0, true);
        due("none yet", x.undo(), STATE);
        due("all stays", x.count(2), 1);
        x.image();
        x.clear();
        due("undone", x.undo(), 1);
        due("undone again", x.undo(), 1);
        for (int i = 0; i < 29; i++) x.kick(2, 2, false);
        due("full", x.kick(2, 2, false), FULL);
        due("undone", x.undo(), 1);
        due("room again", x.kick(2, 2, false), 2);
        due("and again", x.undo(), 1);
        due("the kick it was", x.does(0), 1000);
        due("no other one", x.does(2), -5);
    }

    private static void imageHolds() {
        sentence("THE IMAGE: THE TABLE, KICKS, teams (PLAYERS, RULES stay).");
        ElevenYards x = ofEachKind();
        for (int i = 0; i < 9; i++) x.table(i / 3, i % 3, 10 * i);
        int[] mix = {x.rest(0, 0), x.rest(0, 1), x.rest(0, 2), x.rest(0, 3)};
        for (int i = 0; i < 11; i++) x.team(i / 6, i % 6, i % 7);
        String sides = "0012212";
        for (int i = 0; i < 7; i++) x.kick(sides.charAt(i) - '0', 0, i % 2 == 0);
        x.image();
        for (int i = 0; i < 9; i++) x.table(i / 3, i % 3, 100 - 10 * i);
        manAll(x, 6);
        x.clear();
        for (int i = 0; i < 30; i++) x.kick(1, 1, true);
        due("undo", x.undo(), 7);
        for (int i = 0; i < 9; i++) due("the table", x.told(i / 3, i % 3), 10 * i);
        for (int what = 0; what < 4; what++) due("what comes of the table", x.rest(0, what), mix[what]);
        due("runs", x.shows(1), 5);
        int[] does = {500, 500, 666};
        for (int side = 0; side < 3; side++) due("does " + side, x.does(side), does[side]);
        due("nobody was there", x.win(0), WIN_STATE);
        for (int i = 0; i < 11; i++) due("who was there", x.team(i / 6, i % 6, 0), i % 7);
        due("nobody was there", x.team(1, 5, 0), -5);
    }

    private static void othersStay() {
        sentence("(PLAYERS, RULES stay)");
        ElevenYards x = new ElevenYards();
        x.image();
        due("a rule", rule(x, "go 2 9 t<50"), 0);
        due("a player", x.player(1, 2, 0), 0);
        manAll(x, 0);
        feed(x, "go");
        x.tape(3, 3, 1);
        x.item(3, 0, 77);
        x.act(0, 2, 0);
        x.undo();
        due("players stay", x.count(0), 1);
        due("and what they are", x.of(0, 1), 2);
        due("rules stay", x.count(1), 1);
        due("and what they say", x.weight(0, 0, 0, 2, 3, 3, 0, 10), 39);
        due("the text stays", x.count(3), 2);
        due("the trace stays", x.count(4), 4);
        due("the trace stays", x.trace(1), 20);
        due("tapes stay", x.read(3, 0), 77);
        for (int i = 0; i < 12; i++) due("teams do not", x.team(i / 6, i % 6, 0), -5);
    }

    private static void wrapping() {
        sentence("ACTS of a PLAYER with x (wrapping): 0 looks, 1 goes, 2 tells");
        ElevenYards x = ofEachKind();
        due("1: x + 1", x.act(1, 0, MAX), MIN);
        due("0: x * 2", x.act(0, 2, 1 << 30), MIN);
        due("2: x * 3 + 2", x.act(2, 0, 1 << 30), (3 << 30) + 2);
        due("3: (x + 3) * 2 + 4", x.act(3, 2, 0x3ffffffc), MIN + 2);
        due("4: -(x + 4) of the least", x.act(4, 0, MAX - 3), MIN);
        due("4: -(x + 1 + 4) ^ 6", x.act(4, 1, MAX), (MAX - 3) ^ 6);
        due("5: ((x - 5) * 3 + 5) * 2", x.act(5, 2, MIN), -20);
        due("6: x * 3 + 6 and 2 * 3 + 6", x.act(6, 1, 715827880), MIN + 10);
        x.player(0, 1, 0);
        due("7: x + 7 - 1", x.act(7, 1, MAX - 6), MAX);
        due("7: x + 7 - 1 below the least", x.act(7, 1, MIN - 7), MAX);
    }

    private static void acted(ElevenYards x, int player, int act, int at, int want, int... bodies) {
        String call = "act " + act + " of " + player;
        due(call, x.act(player, act, at), want);
        due(call + ", how many ran", x.count(4), bodies.length);
        for (int i = 0; i < bodies.length; i++) due(call + ", body " + i, x.trace(i), bodies[i]);
        due(call + ", no more", x.trace(bodies.length), NONE);
    }

    private static void bodiesOfKinds() {
        sentence("10 looks: x + i. 11 goes: looks(x) - v. 12 tells: goes(x) * 2.");
        ElevenYards x = new ElevenYards();
        rule(x, "go 0 1 t<50");
        x.player(1, 0, 0);
        x.player(0, 2, 0);
        acted(x, 1, 0, 0, 1, 10);
        acted(x, 1, 1, 0, -1, 11, 10);
        acted(x, 1, 2, 0, -2, 12, 11, 10);
        acted(x, 1, 2, -5, -12, 12, 11, 10);
    }

    private static void bodiesUnder() {
        sentence("OWN: 20 goes: super.goes(x) ^ 6. MIXED: 30 looks: super.looks(x * 3). TURNING: 40 tells: super.tells(x) + goes(1). "
            + "WAITING: 50 looks: -super.looks(x). 51 goes: super.goes(x + 1). NOTED: 60 tells: super.tells(x - i). "
            + "STAYING: 70 goes: super.goes(x) + super.looks(2). 71 looks: super.looks(x) ^ v.");
        for (int v = 0; v <= 2; v++) {
            ElevenYards x = new ElevenYards();
            rule(x, "go 0 1 t<50");
            for (int kind = 0; kind < 7; kind++) x.player(kind, v, 0);
            acted(x, 1, 1, 9, 10 - v ^ 6, 20, 11, 10);
            acted(x, 2, 0, 9, 29, 30, 10);
            acted(x, 3, 2, 9, 2 * (12 - v) + 4 - v, 40, 12, 11, 10, 11, 10);
            acted(x, 4, 0, 9, -13, 50, 10);
            acted(x, 4, 1, 9, -14 - v ^ 6, 51, 20, 11, 50, 10);
            acted(x, 5, 2, 9, 2 * (17 - v), 60, 12, 11, 30, 10);
            acted(x, 6, 1, 9, (33 ^ v) - v + 12, 70, 11, 71, 30, 10, 30, 10);
            acted(x, 6, 0, 9, 33 ^ v, 71, 30, 10);
        }
    }

    private static void bodiesAbove() {
        sentence("looks(..) and so on: the body of his KIND, or, if that has none, of the next KIND above that has one;");
        ElevenYards x = ofEachKind();
        acted(x, 1, 0, 5, 6, 10);
        acted(x, 1, 2, 5, 0, 12, 20, 11, 10);
        acted(x, 2, 1, 5, 17, 11, 30, 10);
        acted(x, 3, 0, 5, 8, 10);
        acted(x, 3, 1, 5, 8, 11, 10);
        acted(x, 4, 2, 5, 2 * (-10 ^ 6), 12, 51, 20, 11, 50, 10);
        acted(x, 5, 0, 5, 20, 30, 10);
        acted(x, 5, 1, 5, 20, 11, 30, 10);
        acted(x, 6, 2, 5, 66, 12, 70, 11, 71, 30, 10, 30, 10);
    }

    private static void bodiesOfSuper() {
        sentence("super.looks(..): so from the KIND above the body's on;");
        ElevenYards x = ofEachKind();
        // OWN has no looks, MIXED no goes and no tells: PLAYER's is the next one.
        acted(x, 4, 0, 5, -9, 50, 10);
        acted(x, 5, 2, 5, 10, 60, 12, 11, 30, 10);
        acted(x, 6, 1, 5, 33, 70, 11, 71, 30, 10, 30, 10);
        // From OWN's body on it is PLAYER's goes, not WAITING's once more.
        acted(x, 4, 1, 5, -10 ^ 6, 51, 20, 11, 50, 10);
        acted(x, 6, 0, 5, 21, 71, 30, 10);
        acted(x, 1, 1, 5, 0, 20, 11, 10);
        acted(x, 2, 0, 5, 17, 30, 10);
    }

    private static void fromTheLeft() {
        sentence("all that stands in a body is done from the left on.");
        ElevenYards x = ofEachKind();
        x.act(3, 2, 5);
        int[] turning = {40, 12, 11, 10, 11, 10};
        for (int i = 0; i < 6; i++) due("tells ahead of goes", x.trace(i), turning[i]);
        x.act(6, 1, 5);
        int[] staying = {70, 11, 71, 30, 10, 30, 10};
        for (int i = 0; i < 7; i++) due("goes ahead of looks", x.trace(i), staying[i]);
    }

    private static void traceOfTheLatest() {
        sentence("THE TRACE: the numbers of the bodies that ran in the latest act(), as they began; the first 20 are kept.");
        ElevenYards x = ofEachKind();
        due("none yet", x.trace(0), NONE);
        int longest = 0;
        for (int i = 0; i < 21; i++) {
            x.act(i / 3, i % 3, i);
            int ran = x.count(4);
            longest = Math.max(longest, ran);
            due("the first is kept", x.trace(0) > 0 ? 1 : 0, 1);
            due("the last is kept", x.trace(ran - 1), 10);
            for (int place : new int[] {ran, 19, 20}) due("none behind it", x.trace(place), NONE);
        }
        due("no act runs more than 8, so all are kept", longest, 8);
        x.act(6, 2, 1);
        acted(x, 0, 0, 1, 1, 10);
    }

    private static void actOfNobody() {
        sentence("0, and no TRACE then: no such PLAYER, act.");
        for (int player : beside(0, 6)) {
            ElevenYards x = ofEachKind();
            x.act(6, 2, 1);
            acted(x, player, 0, 5, 0);
        }
        for (int act : beside(0, 2)) {
            ElevenYards x = ofEachKind();
            x.act(6, 2, 1);
            acted(x, 6, act, 5, 0);
        }
        acted(new ElevenYards(), 0, 0, 5, 0);
        ElevenYards x = ofEachKind();
        acted(x, 7, 3, 5, 0);
        acted(x, 6, 0, 1, 9, 71, 30, 10);
    }

    private static void traceRefuses() {
        sentence("THE TRACE's i-th body. NONE.");
        ElevenYards x = ofEachKind();
        for (int i : new int[] {0, -1, 1, MIN, MAX}) due("no act yet " + i, x.trace(i), NONE);
        x.act(0, 2, 0);
        for (int i : new int[] {-1, 3, 4, 19, 20, 21, MIN, MAX}) due("i " + i, x.trace(i), NONE);
        for (int i = 0; i < 3; i++) due("i " + i, x.trace(i), 12 - i);
    }

    private static void takenRefuses() {
        sentence("A PLAYER taken for one of KIND k (0 .. 6), or one under that: his KIND. BAD: k; NOTHING: no such PLAYER; CAST.");
        ElevenYards x = ofEachKind();
        for (int kind = 0; kind < 7; kind++) {
            due("for his own", x.taken(kind, kind), kind);
            due("for the first", x.taken(kind, 0), kind);
            for (int k : beside(0, 6)) due("k " + k, x.taken(kind, k), BAD);
        }
        due("one above is not one under", x.taken(0, 1), CAST);
        due("one above is not one under", x.taken(1, 4), CAST);
        due("one above is not one under", x.taken(2, 6), CAST);
        due("one beside is not one under", x.taken(5, 6), CAST);
        due("one beside is not one under", x.taken(4, 2), CAST);
        for (int k = 0; k < 7; k++) {
            for (int player : beside(0, 6)) due("player " + player, x.taken(player, k), NOTHING);
        }
        for (int player : beside(0, 6)) due("k ahead of the player", x.taken(player, 7), BAD);
        due("k ahead of the player", new ElevenYards().taken(0, -1), BAD);
        due("no player at all", new ElevenYards().taken(0, 0), NOTHING);
    }

    private static void countRefuses() {
        sentence("How many: 0 PLAYERS, 1 RULES, 2 KICKS, 3 bytes of THE TEXT, 4 bodies that ran in the latest act()");
        ElevenYards x = new ElevenYards();
        for (int what = 0; what <= 4; what++) due("none of " + what, x.count(what), 0);
        for (int what : beside(0, 4)) due("what " + what, x.count(what), BAD);
        for (int i = 0; i < 7; i++) rule(x, "go 0 1 t<50");
        for (int i = 0; i < 10; i++) x.player(0, 0, 0);
        for (int i = 0; i < 30; i++) x.kick(0, 0, true);
        for (int i = 0; i < 25; i++) x.feed(0, 4);
        x.act(0, 2, 0);
        int[] want = {10, 7, 30, 100, 3};
        for (int what = 0; what <= 4; what++) due("the most of " + what, x.count(what), want[what]);
        for (int what : beside(0, 4)) due("what " + what, x.count(what), BAD);
    }

    private static void countOfBodies() {
        sentence("4 bodies that ran in the latest act() (all, kept or not). BAD.");
        ElevenYards x = ofEachKind();
        int[][] ran = {{1, 2, 3}, {1, 3, 4}, {2, 3, 4}, {1, 2, 6}, {2, 5, 6}, {2, 3, 5}, {3, 7, 8}};
        for (int kind = 0; kind < 7; kind++) {
            for (int act = 0; act < 3; act++) {
                x.act(kind, act, 0);
                due("act " + act + " of " + kind, x.count(4), ran[kind][act]);
                x.trace(0);
                due("the latest still", x.count(4), ran[kind][act]);
            }
        }
    }
}
