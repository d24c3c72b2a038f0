/** Promises 19 to 23: for each sentence on SHOOT-OUTS that names an edge a test of its own. */
public final class ShootOutEdgesTest extends Checks {
    public static void main(String[] args) {
        rowOfFive();
        teamRefuses();
        turnsOfKicks();
        lastSidesAreNever();
        aheadByTheScore();
        endsWhenUncaught();
        drawn();
        atTheEnd();
        chanceIsCut();
        winIsCut();
        firstByTurns();
        firstIsLess();
        winRefuses();
        atRefuses();
        firstOrder();
        ordersOfA();
        orderRefuses();
        judgedEnds();
        judgedAllRows();
        judgedCannotBe();
        judgedTooShort();
        judgeRefuses();
        end();
    }

    /** All are PLAYER 0, who always scores; PLAYER 1 scores once in a hundred, where a test holds. */
    private static ElevenYards sureBut(String test) {
        ElevenYards x = withTable(100, 100);
        rule(x, "go 0 1 t<50");
        rule(x, "press 99 " + test);
        x.player(0, 0, 0);
        x.player(0, 0, 1);
        manAll(x, 0);
        return x;
    }

    private static ElevenYards even(int of100) {
        ElevenYards x = withTable(of100, of100);
        rule(x, "go 0 1 t<50");
        x.player(0, 0, 0);
        manAll(x, 0);
        return x;
    }

    private static void rowOfFive() {
        sentence("each a ROW of 5 PLAYERS that kick in turn (A's first, B's first, A's second ..), and a keeper");
        for (int turn = 0; turn < 10; turn++) {
            for (int place = 0; place < 5; place++) {
                ElevenYards x = sureBut("t=" + turn);
                x.team(turn % 2, place, 1);
                int without = turn % 2 == 0 ? 5000 : 995000;
                due("turn " + turn + " is not place " + place, x.win(0), place == turn / 2 ? without : 500000);
            }
        }
        ElevenYards x = withTable(0, 100);
        rule(x, "go 0 1 t<50");
        rule(x, "go 1 1 t<50");
        x.player(0, 0, 0);
        x.player(0, 0, 1);
        manAll(x, 0);
        due("all are kept", x.win(0), 500000);
        x.team(1, 5, 1);
        due("A kicks against B's keeper", x.win(0), 1000000);
        x.team(0, 5, 1);
        due("B against A's", x.win(0), 500000);
        x.team(1, 5, 0);
        due("B against A's", x.win(0), 0);
    }

    private static void teamRefuses() {
        sentence("A team's (0 A, 1 B) i-th kicker (0 .. 4), or keeper (5), is a PLAYER: who it was (-5: nobody). NONE: team, i, player.");
        ElevenYards x = new ElevenYards();
        due("no players yet", x.team(0, 0, 0), NONE);
        rule(x, "go 0 1 t<50");
        for (int i = 0; i < 10; i++) x.player(0, 0, 0);
        for (int team : beside(0, 1)) due("team " + team, x.team(team, 0, 0), NONE);
        for (int i : beside(0, 5)) due("place " + i, x.team(0, i, 0), NONE);
        for (int player : beside(0, 9)) due("player " + player, x.team(0, 0, player), NONE);
        for (int i = 0; i < 12; i++) due("nobody", x.team(i / 6, i % 6, i % 10), -5);
        for (int player : beside(0, 9)) due("player " + player, x.team(0, 0, player), NONE);
        for (int i = 0; i < 12; i++) due("who it was", x.team(i / 6, i % 6, 9), i % 10);
        for (int i = 0; i < 12; i++) due("the same again", x.team(i / 6, i % 6, 9), 9);
    }

    private static void turnsOfKicks() {
        sentence("TURN the number of the kick (0 .. 9)");
        for (int turn = 0; turn < 10; turn++) {
            ElevenYards at = sureBut("t=" + turn);
            for (int place = 0; place < 5; place++) at.team(turn % 2, place, 1);
            due("at " + turn, at.win(0), turn % 2 == 0 ? 5000 : 995000);
            ElevenYards other = sureBut("t=" + turn);
            for (int place = 0; place < 5; place++) other.team(1 - turn % 2, place, 1);
            due("the other team's at " + turn, other.win(0), 500000);
        }
        ElevenYards x = sureBut("t>9");
        manAll(x, 1);
        due("there is none behind 9", x.win(0), 500000);
    }

    private static void lastSidesAreNever() {
        sentence("l and o are 3;");
        for (String test : new String[] {"l=3", "o=3", "l=3&o=3", "l>2", "!o<3"}) {
            ElevenYards x = sureBut(test);
            x.team(0, 4, 1);
            due(test, x.win(0), 5000);
            x.team(0, 4, 0);
            x.team(1, 4, 1);
            due(test, x.win(0), 995000);
        }
        for (String test : new String[] {"l<3", "o<3"}) {
            ElevenYards x = sureBut(test);
            manAll(x, 1);
            due(test, x.win(0), 500000);
        }
    }

    private static void aheadByTheScore() {
        sentence("d by the score.");
        for (int a = 0; a <= 4; a++) {
            for (int b = 0; b <= 4; b++) {
                ElevenYards x = sureBut("d=" + (10 + a - b));
                x.team(0, 4, 1);
                // B's last kick is a goal.
                int scored = a > b ? 1000000 : a == b ? 500000 : 0;
                int missed = a > b + 1 ? 1000000 : a == b + 1 ? 500000 : 0;
                due("A's last at " + a + " " + b, x.at(8, a, b), (scored + 99 * missed) / 100);
            }
        }
        for (int a = 0; a <= 5; a++) {
            for (int b = 0; b <= 4; b++) {
                ElevenYards x = sureBut("d=" + (10 + b - a));
                x.team(1, 4, 1);
                int scored = a > b + 1 ? 1000000 : a == b + 1 ? 500000 : 0;
                int missed = a > b ? 1000000 : a == b ? 500000 : 0;
                due("B's last at " + a + " " + b, x.at(9, a, b), (scored + 99 * missed) / 100);
            }
        }
    }

    private static void endsWhenUncaught() {
        sentence("It ends as soon as one can't be caught, at the latest with 10 kicks");
        ElevenYards x = even(50);
        for (int turn = 0; turn <= 10; turn++) {
            for (int a = 0; a <= (turn + 1) / 2; a++) {
                for (int b = 0; b <= turn / 2; b++) {
                    // A kicks again 5 - (turn + 1) / 2 times, B 5 - turn / 2 times.
                    boolean won = a > b + 5 - turn / 2;
                    boolean lost = b > a + 5 - (turn + 1) / 2;
                    int win = x.at(turn, a, b);
                    if (won) due("won at " + turn + " " + a + " " + b, win, 1000000);
                    else if (lost) due("lost at " + turn + " " + a + " " + b, win, 0);
                    else due("open at " + turn + " " + a + " " + b, win > 0 && win < 1000000 ? 1 : 0, 1);
                }
            }
        }
        due("one kick is left, it may be drawn", x.at(9, 1, 0), 750000);
        due("it can't", x.at(9, 2, 0), 1000000);
        due("one each is left, it may be drawn", x.at(8, 0, 1), 125000);
        due("it can't", x.at(8, 0, 2), 0);
    }

    private static void drawn() {
        sentence("as many goals: DRAWN.");
        ElevenYards x = even(50);
        for (int goals = 0; goals <= 5; goals++) due("drawn", x.at(10, goals, goals), 500000);
        due("drawn by the last kick", scoringLeft("go 1 1 t<50").at(9, 0, 0), 500000);
    }

    private static void atTheEnd() {
        sentence("of each score 1000000 (won), 500000 (DRAWN), 0 (lost) at the end;");
        ElevenYards x = even(50);
        for (int a = 0; a <= 5; a++) {
            for (int b = 0; b <= 5; b++) {
                due("at " + a + " " + b, x.at(10, a, b), a > b ? 1000000 : a == b ? 500000 : 0);
            }
        }
    }

    /** PLAYER 0's chance is that of 100 where he goes left, PLAYER 1 never scores; A has 0, B has 1. */
    private static ElevenYards scoringLeft(String goes) {
        ElevenYards x = new ElevenYards();
        for (int i = 0; i < 9; i++) x.table(i / 3, i % 3, i < 3 ? 100 : 0);
        rule(x, goes);
        rule(x, "go 1 1 t<50");
        x.player(0, 0, 0);
        x.player(0, 0, 1);
        for (int i = 0; i < 12; i++) x.team(i / 6, i % 6, i / 6);
        return x;
    }

    private static void chanceIsCut() {
        sentence("A kick is a goal with its CHANCE: ODDS in millionths (cut).");
        // 333333 of a million to win, else drawn: 333333 and half of 666667, cut.
        due("a third", scoringLeft("go 0 1 t<50;go 1 2 t<50").at(8, 0, 0), 666666);
        // 666666 to win, else drawn: 666666 and half of 333334.
        due("two thirds", scoringLeft("go 0 2 t<50;go 1 1 t<50").at(8, 0, 0), 833333);
        // Behind by one it needs a goal to be drawn: half of 333333, cut.
        due("a third, behind", scoringLeft("go 0 1 t<50;go 1 2 t<50").at(8, 0, 1), 166666);
        due("never", scoringLeft("go 1 1 t<50").at(8, 0, 0), 500000);
        due("always", scoringLeft("go 0 1 t<50").at(8, 0, 0), 1000000);
    }

    private static void winIsCut() {
        sentence("else CHANCE times that of a goal and 1000000 less it times that of none, together, by 1000000 (cut).");
        ElevenYards x = scoringLeft("go 0 1 t<50;go 1 2 t<50");
        int next = 500000;
        for (int turn = 8; turn >= 0; turn -= 2) {
            // Without a goal so far: one goal wins, for B never scores.
            next = (int) ((333333L * 1000000 + 666667L * next) / 1000000);
            due("before turn " + turn, x.at(turn, 0, 0), next);
            due("B's kick changes nothing", x.at(turn + 1, 0, 0), turn == 8 ? 500000 : x.at(turn + 2, 0, 0));
        }
        due("the start", x.win(0), next);
    }

    private static void firstByTurns() {
        sentence("FIRST: WIN of A, less what it would be, if B's first came first (TURNS then are B's 0, 2 ..): 1000000 less WIN of B so.");
        for (int turn = 0; turn < 10; turn++) {
            ElevenYards x = sureBut("t=" + turn);
            x.team(0, turn / 2, 1);
            due("A's at " + turn, x.win(1), turn % 2 == 0 ? 5000 - 500000 : 500000 - 5000);
            x = sureBut("t=" + turn);
            x.team(1, turn / 2, 1);
            due("B's at " + turn, x.win(1), turn % 2 == 0 ? 500000 - 995000 : 995000 - 500000);
        }
        ElevenYards x = sureBut("d=9");
        x.team(0, 0, 1);
        due("A is behind, if B goes first", x.win(1), 500000 - 5000);
    }

    private static void firstIsLess() {
        sentence("what it would be, if B's first came first");
        due("all score", sureBut("t>50").win(1), 0);
        due("none scores", even(0).win(1), 0);
        ElevenYards never = scoringLeft("go 0 1 t<50");
        due("A wins in any case", never.win(1), 0);
        ElevenYards third = even(33);
        due("of cut numbers", third.win(1), 2 * third.win(0) - 1000000);
    }

    /** No place but one has nobody (12: none has); nobody ever scores. */
    private static ElevenYards lacking(int gap) {
        ElevenYards x = withTable(0, 0);
        rule(x, "go 0 1 t<50");
        x.player(0, 0, 0);
        for (int i = 0; i < 12; i++) if (i != gap) x.team(i / 6, i % 6, 0);
        return x;
    }

    private static void winRefuses() {
        sentence("WIN of A (what 0), FIRST (1). -1000001: NONE; -1000002: STATE: a place of a team has nobody.");
        for (int gap = 0; gap < 12; gap++) {
            ElevenYards x = lacking(gap);
            due("win", x.win(0), WIN_STATE);
            due("first", x.win(1), WIN_STATE);
            for (int what : beside(0, 1)) due("NONE ahead of STATE", x.win(what), WIN_NONE);
            x.team(gap / 6, gap % 6, 0);
            due("now there is one", x.win(0), 500000);
            for (int what : beside(0, 1)) due("what " + what, x.win(what), WIN_NONE);
        }
        due("no teams", new ElevenYards().win(0), WIN_STATE);
    }

    private static void atRefuses() {
        sentence("before the kick of a TURN (0 .. 10; A has a goals, B b). -1000001: NONE: turn, goals (more than there were kicks);");
        for (int gap = 5; gap <= 12; gap += 7) {
            ElevenYards x = lacking(gap);
            for (int turn : beside(0, 10)) due("turn " + turn, x.at(turn, 0, 0), WIN_NONE);
            for (int turn = 0; turn <= 10; turn++) {
                for (int a : beside(0, (turn + 1) / 2)) due("A's at " + turn + " " + a, x.at(turn, a, 0), WIN_NONE);
                for (int b : beside(0, turn / 2)) due("B's at " + turn + " " + b, x.at(turn, 0, b), WIN_NONE);
                int all = x.at(turn, (turn + 1) / 2, turn / 2);
                due("as many as there were", all > 0 ? 1 : all, gap == 5 ? WIN_STATE : 1);
                due("none of them", x.at(turn, 0, 0) > 0 ? 1 : 0, gap == 5 ? 0 : 1);
            }
        }
        sentence("goals (more than there were kicks); -1000002: STATE.");
        for (int gap = 0; gap < 12; gap++) {
            due("a place has nobody", lacking(gap).at(0, 0, 0), WIN_STATE);
            due("a place has nobody", lacking(gap).at(10, 5, 5), WIN_STATE);
        }
    }

    private static void order(ElevenYards x, String name, int win, int... want) {
        due(name + ", its win", x.order(-1), win);
        for (int i = 0; i < 5; i++) due(name + " " + i, x.order(i), want[i]);
    }

    private static void firstOrder() {
        sentence("of several the first as a row of places. ACTS");
        order(even(0), "none scores", 500000, 0, 1, 2, 3, 4);
        order(sureBut("t>50"), "all score", 500000, 0, 1, 2, 3, 4);
        order(even(50), "all alike", even(50).win(0), 0, 1, 2, 3, 4);
        ElevenYards sure = scoringLeft("go 0 1 t<50");
        order(sure, "all are won", 1000000, 0, 1, 2, 3, 4);
        for (int i = 0; i < 12; i++) sure.team(i / 6, i % 6, 1 - i / 6);
        order(sure, "all are lost", 0, 0, 1, 2, 3, 4);
        for (int place = 0; place < 5; place++) {
            int[] o = othersThan(place);
            ElevenYards x = sureBut("!t=4");
            x.team(0, place, 1);
            order(x, "third alone", 500000, o[0], o[1], place, o[2], o[3]);
            x = sureBut("t>0&t<8");
            x.team(0, place, 1);
            if (place == 0) order(x, "first or last", 500000, 0, 1, 2, 3, 4);
            else order(x, "first or last", 500000, o[0], o[1], o[2], o[3], place);
        }
    }

    private static int[] othersThan(int place) {
        int[] others = new int[4];
        for (int i = 0; i < 4; i++) others[i] = i < place ? i : i + 1;
        return others;
    }

    private static void ordersOfA() {
        sentence("BEST ORDER of A: of all orders of its ROW that with the greatest WIN (B's as told)");
        // Each place's man scores in one turn alone; the row that helps them all is told by those turns.
        ElevenYards x = withTable(100, 100);
        int[] turns = {6, 0, 8, 2, 4};
        for (int turn : turns) rule(x, "press 99 !t=" + turn);
        rule(x, "go 0 1 t<50");
        for (int i = 0; i < 6; i++) x.player(0, 0, i);
        manAll(x, 5);
        for (int i = 0; i < 5; i++) x.team(0, i, i);
        order(x, "each in his turn", 500000, 1, 3, 4, 0, 2);
        due("the row itself stays", x.win(0) < 1000 ? 1 : 0, 1);
        // B would do better in another order, but stays as told.
        ElevenYards b = sureBut("t>1");
        b.team(1, 4, 1);
        order(b, "B's as told", 995000, 0, 1, 2, 3, 4);
    }

    private static void orderRefuses() {
        sentence("BEST ORDER of A: i -1 its WIN; the place in the ROW of who kicks i-th. -1000001: NONE; -1000002: STATE.");
        for (int gap = 0; gap <= 12; gap++) {
            ElevenYards x = lacking(gap);
            for (int i : beside(-1, 4)) due("i " + i, x.order(i), WIN_NONE);
            for (int i = -1; i <= 4; i++) due("i " + i, x.order(i), gap < 12 ? WIN_STATE : i < 0 ? 500000 : i);
        }
    }

    private static ElevenYards told(int... row) {
        ElevenYards x = new ElevenYards();
        x.tape(0, 0, row.length);
        for (int i = 0; i < row.length; i++) x.item(0, i, row[i]);
        return x;
    }

    private static void judgedEnds() {
        sentence("JUDGED: how it ends: 1 A won, 2 B won, 3 DRAWN;");
        due("A won early", told(1, 0, 1, 0, 1, 0).judge(0, 0), 1);
        due("B won early", told(0, 1, 0, 1, 0, 1).judge(0, 0), 2);
        due("A won with the last", told(1, 1, 1, 1, 1, 1, 1, 1, 1, 0).judge(0, 0), 1);
        due("B won with the last", told(0, 0, 0, 0, 0, 0, 0, 0, 0, 1).judge(0, 0), 2);
        due("A won with the last but one", told(0, 0, 0, 0, 0, 0, 1, 0, 1).judge(0, 0), 1);
        due("B won with the last but one", told(0, 0, 0, 0, 0, 0, 0, 1, 0).judge(0, 0), 2);
        due("drawn, none", told(new int[10]).judge(0, 0), 3);
        due("drawn, all", told(1, 1, 1, 1, 1, 1, 1, 1, 1, 1).judge(0, 0), 3);
        due("what comes behind does not matter", told(1, 1, 1, 1, 1, 1, 1, 1, 1, 1, 9).judge(0, 0), 3);
        due("nor here", told(1, 0, 1, 0, 1, 0, 9, 9).judge(0, 0), 1);
    }

    /** Whether a team is ahead however the kicks behind the first ones go. */
    private static boolean isAheadAnyhow(int row, int kicks, int team) {
        for (int behind = 0; behind < 1 << 10 - kicks; behind++) {
            int whole = row & (1 << kicks) - 1 | behind << kicks;
            int a = Integer.bitCount(whole & 0b0101010101), b = Integer.bitCount(whole & 0b1010101010);
            if (team == 0 ? a <= b : b <= a) return false;
        }
        return true;
    }

    private static void judgedAllRows() {
        sentence("A SHOOT-OUT told by a row of bytes, from a place on (1 a goal, 0 none, as they were kicked)");
        for (int row = 0; row < 1024; row++) {
            int kicks = 0;
            while (kicks < 10 && !isAheadAnyhow(row, kicks, 0) && !isAheadAnyhow(row, kicks, 1)) kicks++;
            int ends = isAheadAnyhow(row, kicks, 0) ? 1 : isAheadAnyhow(row, kicks, 1) ? 2 : 3;
            // As long as it takes, and with what can't be ahead of it and behind it.
            int place = row % 7;
            ElevenYards x = new ElevenYards();
            x.tape(0, 0, place + kicks);
            x.tape(1, 0, place + kicks - 1);
            x.tape(2, 0, 60);
            for (int i = 0; i < 60; i++) {
                int goal = i >= place && i < place + kicks ? row >> i - place & 1 : 9;
                for (int tape = 0; tape < 3; tape++) x.item(tape, i, goal);
            }
            due("row " + row, x.judge(0, place), ends);
            due("row " + row + ", one too few", x.judge(1, place), 1000 + kicks - 1);
            due("row " + row + ", the rest is not looked at", x.judge(2, place), ends);
            x.item(2, place + kicks - 1, -1);
            due("row " + row + ", the last can't be", x.judge(2, place), -10 - (kicks - 1));
        }
    }

    private static void judgedCannotBe() {
        sentence("-10 less how many there were ahead of the first that can't be (neither 0 nor 1)");
        for (int ahead = 0; ahead < 10; ahead++) {
            for (int item : new int[] {2, -1, 127, -128, 9}) {
                int[] row = new int[10];
                row[ahead] = item;
                due(item + " behind " + ahead, told(row).judge(0, 0), -10 - ahead);
                due("it may be the last", told(java.util.Arrays.copyOf(row, ahead + 1)).judge(0, 0), -10 - ahead);
                row[9] = 5;
                due("the first of two", told(row).judge(0, 0), -10 - ahead);
            }
        }
        due("behind the tenth it does not matter", told(0, 0, 0, 0, 0, 0, 0, 0, 0, 0, 2).judge(0, 0), 3);
        due("256 is 0 as a byte", told(256, 0, 0, 0, 0, 0, 0, 0, 0, 0).judge(0, 0), 3);
    }

    private static void judgedTooShort() {
        sentence("1000 and how many were looked at, if the row ends ahead of the end (or the place is below 0, or the TAPE holds nothing).");
        for (int size = 0; size < 10; size++) {
            due("row of " + size, told(new int[size]).judge(0, 0), 1000 + size);
            for (int place = 0; place <= size; place++) {
                due("row of " + size + " from " + place, told(new int[size]).judge(0, place), 1000 + size - place);
            }
            due("beyond its end", told(new int[size]).judge(0, size + 1), 1000);
            due("far beyond its end", told(new int[size]).judge(0, MAX), 1000);
        }
        for (int place : new int[] {-1, -2, -10, MIN}) {
            due("place " + place, told(new int[10]).judge(0, place), 1000);
            due("place " + place + ", what can't be", told(9, 9).judge(0, place), 1000);
            due("place " + place + ", no items", told().judge(0, place), 1000);
        }
        due("the last ten of sixty", told(new int[60]).judge(0, 50), 3);
        due("the last nine of sixty", told(new int[60]).judge(0, 51), 1009);
        due("behind sixty", told(new int[60]).judge(0, 60), 1000);
        ElevenYards x = new ElevenYards();
        for (int tape = 0; tape < 6; tape++) {
            for (int place : new int[] {0, 1, -1, MIN, MAX}) due("nothing", x.judge(tape, place), 1000);
        }
        x.tape(0, 0, 10);
        x.tape(0, -1, 0);
        due("nothing any more", x.judge(0, 0), 1000);
        x.tape(0, 3, 10);
        x.tape(0, -1, 0);
        due("nothing any more", x.judge(0, 0), 1000);
    }

    private static void judgeRefuses() {
        sentence("JUDGED from place i of a TAPE on. NONE: tape; CAST: it is no row of bytes.");
        ElevenYards x = new ElevenYards();
        for (int tape : beside(0, 5)) due("tape " + tape, x.judge(tape, 0), NONE);
        for (int tape : beside(0, 5)) due("tape " + tape + " ahead of the place", x.judge(tape, -1), NONE);
        for (int sort = 1; sort <= 4; sort++) {
            x.tape(5, sort, 12);
            for (int place : new int[] {0, 5, 12, 13, -1, MIN, MAX}) due("sort " + sort, x.judge(5, place), CAST);
            x.tape(5, sort, 0);
            due("sort " + sort + " without items", x.judge(5, 0), CAST);
        }
        x.tape(5, 0, 12);
        due("bytes again", x.judge(5, 0), 3);
    }
}
