/** Promises 14 to 18: for each sentence on KICKS that were that names an edge a test of its own. */
public final class KickEdgesTest extends Checks {
    public static void main(String[] args) {
        thirtyAtMost();
        kickRefuses();
        clearsAll();
        sidesDo();
        doesRefuses();
        worst();
        runs();
        showsRefuses();
        likelyOfNine();
        likelyOfRuns();
        likelyLowestTerms();
        likelyRefuses();
        end();
    }

    /** KICKS to the SIDES that the figures of a text are; * behind one: a goal. */
    private static ElevenYards kicked(String kicks) {
        ElevenYards x = new ElevenYards();
        for (int i = 0; i < kicks.length(); i++) {
            boolean goal = i + 1 < kicks.length() && kicks.charAt(i + 1) == '*';
            if (kicks.charAt(i) != '*') x.kick(kicks.charAt(i) - '0', i % 3, goal);
        }
        return x;
    }

    private static void thirtyAtMost() {
        sentence("3 KICKS that were, 30 at most, as they come: a SIDE, the keeper's SIDE, a goal or not.");
        ElevenYards x = new ElevenYards();
        for (int i = 0; i < 30; i++) due("kick", x.kick(i % 3, i / 3 % 3, i % 2 == 0), i + 1);
        due("no more", x.kick(0, 0, true), FULL);
        due("no more", x.kick(2, 2, false), FULL);
        due("thirty", x.count(2), 30);
        for (int side = 0; side < 3; side++) due("half of ten", x.does(side), 500);
        due("as they came", x.shows(1), 30);
    }

    private static void kickRefuses() {
        sentence("A KICK: how many there are. NONE: sides; FULL.");
        ElevenYards x = new ElevenYards();
        for (int round = 0; round < 2; round++) {
            for (int side : beside(0, 2)) due("side " + side, x.kick(side, 0, true), NONE);
            for (int side : beside(0, 2)) due("keeper " + side, x.kick(0, side, true), NONE);
            due("both", x.kick(3, 3, true), NONE);
            due("how many", x.count(2), 30 * round);
            for (int i = 0; i < 30; i++) due("a kick", x.kick(2, 2, true), round == 0 ? i + 1 : FULL);
        }
    }

    private static void clearsAll() {
        sentence("All KICKS are gone: how many there were.");
        ElevenYards x = new ElevenYards();
        due("none", x.clear(), 0);
        for (int i = 0; i < 30; i++) x.kick(1, 1, true);
        due("thirty", x.clear(), 30);
        due("gone", x.clear(), 0);
        due("gone", x.count(2), 0);
        due("gone", x.does(1), -5);
        due("gone", x.shows(1), 0);
        due("room again", x.kick(0, 0, false), 1);
        due("only the new one", x.does(0), 0);
        due("only the new one", x.does(1), -5);
    }

    private static void sidesDo() {
        sentence("SIDES DO: of a SIDE: goals times 1000 by kicks to it (cut; -5: none).");
        ElevenYards none = new ElevenYards();
        for (int side = 0; side < 3; side++) due("no kicks", none.does(side), -5);
        ElevenYards x = kicked("0*001*1*122");
        due("1 of 3", x.does(0), 333);
        due("2 of 3", x.does(1), 666);
        due("0 of 2", x.does(2), 0);
        due("all", kicked("2*2*2*").does(2), 1000);
        due("not to it", kicked("2*2*2*").does(0), -5);
        due("6 of 7", kicked("0*0*0*0*0*0*0").does(0), 857);
        due("29 of 30", kicked("0*".repeat(29) + "0").does(0), 966);
    }

    private static void doesRefuses() {
        sentence("`int does(int side)`: SIDES DO; -5. NONE.");
        for (String kicks : new String[] {"", "0*1*2*"}) {
            for (int side : beside(0, 2)) due("side " + side, kicked(kicks).does(side), NONE);
            for (int side = 0; side < 3; side++) due("side " + side, kicked(kicks).does(side), kicks.isEmpty() ? -5 : 1000);
        }
    }

    private static void worst() {
        sentence("WORST of it: how far apart the best and the worst SIDE (of those that had kicks) are (0: fewer than two).");
        due("none", kicked("").shows(0), 0);
        for (int side = 0; side < 3; side++) {
            due("one, a goal", kicked(side + "*").shows(0), 0);
            due("one, no goal", kicked("" + side).shows(0), 0);
            due("one, some goals", kicked(side + "*" + side + side).shows(0), 0);
        }
        due("two alike", kicked("0*2*").shows(0), 0);
        due("two without a goal", kicked("02").shows(0), 0);
        due("left and right", kicked("0*2").shows(0), 1000);
        due("left and middle", kicked("01*").shows(0), 1000);
        due("middle and right", kicked("12*2").shows(0), 500);
        due("the third does not count", kicked("0*0*02*").shows(0), 1000 - 666);
        due("three, the middle is best", kicked("0*01*2*22").shows(0), 1000 - 333);
        due("three, the middle is worst", kicked("0*0*00*12*2").shows(0), 750);
    }

    private static void runs() {
        sentence("RUNS: how many stretches of one SIDE there are.");
        due("no kicks", kicked("").shows(1), 0);
        due("one", kicked("2").shows(1), 1);
        due("two alike", kicked("00").shows(1), 1);
        due("two unlike", kicked("01").shows(1), 2);
        due("it may come again", kicked("010").shows(1), 3);
        due("a goal or not is one", kicked("0*00*1*1").shows(1), 2);
        due("thirty of one side", kicked("1".repeat(30)).shows(1), 1);
        due("thirty stretches", kicked("20".repeat(15)).shows(1), 30);
    }

    private static void showsRefuses() {
        sentence("WORST (what 0), RUNS (1). NONE.");
        for (String kicks : new String[] {"", "0*12"}) {
            for (int what : beside(0, 1)) due("what " + what, kicked(kicks).shows(what), NONE);
        }
        due("worst", kicked("0*12").shows(0), 1000);
        due("runs", kicked("0*12").shows(1), 3);
    }

    private static void likely(String kicks, int above, int below) {
        ElevenYards x = kicked(kicks);
        fraction("likely " + kicks, x.likely(0), x.likely(1), above, below);
    }

    private static void likelyOfNine() {
        sentence("(left, middle, right as often as they are; 9 KICKS at most, else -9)");
        likely("012012012", 174 / 6, 1680 / 6);
        likely("000000000", 1, 1);
        likely("0120120120", -9, -9);
        likely("0000000000", -9, -9);
        likely("1".repeat(30), -9, -9);
        ElevenYards x = kicked("0120120120");
        x.clear();
        fraction("cleared", x.likely(0), x.likely(1), 1, 1);
    }

    private static void likelyOfRuns() {
        sentence("how many have as many RUNS or more");
        likely("", 1, 1);
        likely("0", 1, 1);
        likely("00", 1, 1);
        likely("01", 1, 1);
        // Of the 126 orders of five and four one has 9 stretches, 8 have 8.
        likely("010101010", 1, 126);
        likely("001010101", 9 / 9, 126 / 9);
        likely("000001111", 1, 1);
        likely("010", 1, 3);
        likely("110", 1, 1);
        // Left, left, middle, right: 6 of 12 orders have the two apart; the others are 3 stretches.
        likely("0102", 1, 2);
        likely("0012", 1, 1);
    }

    private static void likelyLowestTerms() {
        sentence("a fraction of all orders in lowest terms.");
        likely("0202", 1, 3);
        likely("0220", 2, 3);
        likely("0022", 1, 1);
        // Of 20 orders of three and three 2 have 6 stretches, 4 have 5.
        likely("010101", 1, 10);
        likely("011010", 3, 10);
    }

    private static void likelyRefuses() {
        sentence("LIKELY of RUNS; part 0 above, 1 below the line (-9). NONE: part.");
        likely("010", 1, 3);
        for (String kicks : new String[] {"", "010", "000000000", "0000000000"}) {
            for (int part : beside(0, 1)) due("part " + part + " of " + kicks, kicked(kicks).likely(part), NONE);
        }
    }
}
