/** Promises 30 to 33: for each sentence on TAPES that names an edge a test of its own. */
public final class TapeEdgesTest extends Checks {
    private static final int[] BITS = {8, 16, 32, 64};

    public static void main(String[] args) {
        nothingAtFirst();
        sortsOfRows();
        tapeAllNothing();
        tapeOfNothing();
        tapeRefuses();
        hostRefusals();
        lowestBits();
        booleans();
        itemRefuses();
        readRefuses();
        shifted();
        asTheyWere();
        shiftOfNone();
        shiftUnlike();
        shiftRefuses();
        end();
    }

    /** TAPE 0 is a row of a sort with items 1, 2, 3 .., TAPE 1 one of 4 items that are 0. */
    private static ElevenYards withRow(int sort, int n) {
        ElevenYards x = new ElevenYards();
        x.tape(0, sort, n);
        for (int i = 0; i < n; i++) x.item(0, i, i + 1);
        x.tape(1, sort, 4);
        return x;
    }

    private static void row(ElevenYards x, int tape, long... want) {
        for (int i = 0; i < want.length; i++) due("item " + i + " of " + tape, x.read(tape, i), want[i]);
        due("behind the row of " + tape, x.read(tape, want.length), NO);
    }

    private static void nothingAtFirst() {
        sentence("==== 4 TAPES 0 .. 5 hold nothing (at first)");
        ElevenYards x = new ElevenYards();
        for (int tape = 0; tape <= 5; tape++) {
            due("item", x.item(tape, 0, 1), NOTHING);
            due("read", x.read(tape, 0), NO);
            due("judge", x.judge(tape, 0), 1000);
            due("shift", x.shift(tape, 0, tape, 0, 0), NOTHING);
            due("it may hold something", x.tape(tape, 0, 1), 1);
            due("its own", x.item(tape, 0, tape), 1);
        }
        for (int tape = 0; tape <= 5; tape++) due("each its own", x.read(tape, 0), tape);
        due("no seventh", x.tape(6, 0, 1), NONE);
        due("no seventh", x.judge(6, 0), NONE);
    }

    private static void sortsOfRows() {
        sentence("or a row of 0 bytes, 1 shorts, 2 ints, 3 longs, 4 booleans (items 0, 1).");
        ElevenYards x = new ElevenYards();
        for (int sort = 0; sort <= 4; sort++) due("sort " + sort, x.tape(sort, sort, 1), 1);
        for (int sort : new int[] {-2, 5, MIN, MAX}) due("sort " + sort, x.tape(5, sort, 1), BAD);
        long[] want = {-1, 0xff, 0xff, 0xff, 1};
        for (int sort = 0; sort <= 4; sort++) {
            x.item(sort, 0, 255);
            due("sort " + sort, x.read(sort, 0), want[sort]);
        }
    }

    private static void tapeAllNothing() {
        sentence("A TAPE becomes a row of n (0 .. 60) of a sort, all 0,");
        for (int sort = 0; sort <= 4; sort++) {
            ElevenYards x = new ElevenYards();
            due("sixty", x.tape(0, sort, 60), 1);
            for (int i = 0; i < 60; i++) {
                due("all 0", x.read(0, i), 0);
                x.item(0, i, 1);
            }
            due("no more than sixty", x.item(0, 60, 1), PLACE);
            due("a shorter one", x.tape(0, sort, 3), 1);
            row(x, 0, 0, 0, 0);
            due("a longer one", x.tape(0, sort, 60), 1);
            for (int i = 0; i < 60; i++) due("all 0 again", x.read(0, i), 0);
            due("none", x.tape(0, sort, 0), 1);
            due("no place", x.item(0, 0, 1), PLACE);
            row(x, 0);
            due("one", x.tape(0, sort, 1), 1);
            row(x, 0, 0);
        }
    }

    private static void tapeOfNothing() {
        sentence("or holds nothing (sort -1: n does not matter): 1.");
        for (int n : new int[] {0, 1, 60, 61, -1, MIN, MAX}) {
            ElevenYards x = withRow(2, 3);
            due("n " + n, x.tape(0, -1, n), 1);
            due("nothing", x.item(0, 0, 1), NOTHING);
            due("nothing", x.read(0, 0), NO);
            due("nothing still", x.tape(0, -1, n), 1);
            due("the other stays", x.read(1, 3), 0);
            x.tape(0, 2, 3);
            row(x, 0, 0, 0, 0);
        }
    }

    private static void tapeRefuses() {
        sentence("NONE: tape; BAD: sort, n above 60; SIZE.");
        ElevenYards x = withRow(3, 2);
        for (int tape : beside(0, 5)) {
            due("tape " + tape, x.tape(tape, 0, 1), NONE);
            due("tape ahead of sort " + tape, x.tape(tape, 9, 1), NONE);
            due("tape ahead of n " + tape, x.tape(tape, 0, 61), NONE);
            due("tape ahead of the size " + tape, x.tape(tape, 0, -1), NONE);
            due("tape ahead of nothing " + tape, x.tape(tape, -1, 0), NONE);
        }
        for (int sort : beside(-1, 4)) {
            due("sort " + sort, x.tape(0, sort, 1), BAD);
            due("sort ahead of the size " + sort, x.tape(0, sort, -1), BAD);
        }
        for (int sort = 0; sort <= 4; sort++) {
            for (int n : new int[] {61, 62, MAX}) due("n " + n, x.tape(0, sort, n), BAD);
            for (int n : new int[] {-1, -2, MIN}) due("n " + n, x.tape(0, sort, n), SIZE);
        }
        row(x, 0, 1, 2);
    }

    private static void hostRefusals() {
        sentence("The host's refusals: NOTHING (-11): nothing is there; CAST (-12): another sort or KIND; PLACE (-13): no such place; SIZE "
            + "(-14): a size below 0.");
        ElevenYards x = withRow(0, 2);
        due("nothing is there", x.item(5, 0, 1), -11);
        due("no such PLAYER", x.taken(0, 0), -11);
        rule(x, "go 0 1 t<9");
        x.player(0, 0, 0);
        due("another KIND", x.taken(0, 1), -12);
        x.tape(2, 1, 2);
        due("another sort", x.shift(0, 0, 2, 0, 1), -12);
        due("another sort", x.judge(2, 0), -12);
        due("no such place", x.item(0, 2, 1), -13);
        due("no such place", x.shift(0, 0, 1, 0, 3), -13);
        due("a size below 0", x.tape(0, 0, -1), -14);
    }

    private static void lowestBits() {
        sentence("Item i of a TAPE becomes v (its lowest bits, as many as an item has;");
        for (int sort = 0; sort <= 3; sort++) {
            int bits = BITS[sort];
            long least = -1L << bits - 1, most = ~least;
            ElevenYards x = withRow(sort, 60);
            long[][] becomes = {{0, 0}, {1, 1}, {-1, -1}, {most, most}, {least, least}, {most + 1, least}, {least - 1, most},
                {Long.MAX_VALUE, bits == 64 ? most : -1}, {Long.MIN_VALUE, bits == 64 ? least : 0}};
            for (long[] pair : becomes) {
                due("item " + pair[0] + " of sort " + sort, x.item(0, 59, pair[0]), 1);
                due("it becomes", x.read(0, 59), pair[1]);
                due("the one ahead stays", x.read(0, 58), 59);
            }
            if (bits < 64) {
                x.item(0, 0, 1L << bits);
                due("one bit too high", x.read(0, 0), 0);
                x.item(0, 0, (1L << bits) + 5);
                due("the lowest ones", x.read(0, 0), 5);
            }
        }
    }

    private static void booleans() {
        sentence("booleans: whether v is not 0): 1.");
        ElevenYards x = withRow(4, 2);
        for (long v : new long[] {1, 2, -1, 256, 65536, 1L << 32, 1L << 63, Long.MAX_VALUE}) {
            x.item(0, 0, 0);
            due("it is 0", x.read(0, 0), 0);
            due("item " + v, x.item(0, 0, v), 1);
            due("it is 1", x.read(0, 0), 1);
        }
    }

    private static void itemRefuses() {
        sentence("booleans: whether v is not 0): 1. NONE; NOTHING; PLACE.");
        ElevenYards x = withRow(3, 60);
        for (int tape : beside(0, 5)) {
            due("tape " + tape, x.item(tape, 0, 7), NONE);
            due("tape ahead of the place", x.item(tape, -1, 7), NONE);
        }
        for (int i : new int[] {0, -1, 60, MIN, MAX}) due("nothing, place " + i, x.item(2, i, 7), NOTHING);
        for (int i : beside(0, 59)) due("place " + i, x.item(0, i, 7), PLACE);
        for (int i : beside(0, 3)) due("place " + i, x.item(1, i, 7), PLACE);
        due("the first", x.item(0, 0, 7), 1);
        due("the last", x.item(0, 59, 7), 1);
        row(x, 1, 0, 0, 0, 0);
    }

    private static void readRefuses() {
        sentence("Item i of a TAPE. NO: no such TAPE, nothing there, no such place.");
        ElevenYards x = withRow(3, 60);
        due("the first", x.read(0, 0), 1);
        due("the last", x.read(0, 59), 60);
        for (int tape : beside(0, 5)) due("tape " + tape, x.read(tape, 0), NO);
        for (int i : new int[] {0, -1, 59, MIN, MAX}) due("nothing, place " + i, x.read(2, i), NO);
        for (int i : beside(0, 59)) due("place " + i, x.read(0, i), NO);
        for (int i : beside(0, 3)) due("place " + i, x.read(1, i), NO);
        x.tape(0, -1, 0);
        due("nothing any more", x.read(0, 0), NO);
    }

    private static void shifted() {
        sentence("n items of a TAPE from i on come to another one (or the same) from j on");
        for (int sort = 0; sort <= 4; sort++) {
            ElevenYards x = withRow(sort, 6);
            x.item(0, 2, 0);
            long[] was = new long[6];
            for (int i = 0; i < 6; i++) was[i] = x.read(0, i);
            due("three", x.shift(0, 1, 1, 0, 3), 3);
            row(x, 1, was[1], was[2], was[3], 0);
            due("the last one", x.shift(0, 5, 1, 3, 1), 1);
            row(x, 1, was[1], was[2], was[3], was[5]);
            due("all of the other", x.shift(1, 0, 0, 2, 4), 4);
            row(x, 0, was[0], was[1], was[1], was[2], was[3], was[5]);
        }
        ElevenYards x = withRow(3, 60);
        x.tape(5, 3, 60);
        due("sixty", x.shift(0, 0, 5, 0, 60), 60);
        for (int i = 0; i < 60; i++) due("as it was", x.read(5, i), i + 1);
    }

    private static void asTheyWere() {
        sentence("(or the same) from j on, as they all were before: n.");
        ElevenYards x = withRow(2, 5);
        due("forth by one", x.shift(0, 0, 0, 1, 4), 4);
        row(x, 0, 1, 1, 2, 3, 4);
        x = withRow(2, 5);
        due("forth by two", x.shift(0, 0, 0, 2, 3), 3);
        row(x, 0, 1, 2, 1, 2, 3);
        x = withRow(2, 5);
        due("back by one", x.shift(0, 1, 0, 0, 4), 4);
        row(x, 0, 2, 3, 4, 5, 5);
        x = withRow(2, 5);
        due("to where they are", x.shift(0, 0, 0, 0, 5), 5);
        row(x, 0, 1, 2, 3, 4, 5);
    }

    private static void shiftOfNone() {
        sentence("as they all were before: n. NONE: tapes");
        ElevenYards x = withRow(2, 5);
        due("none", x.shift(0, 0, 1, 0, 0), 0);
        due("none at the very ends", x.shift(0, 5, 1, 4, 0), 0);
        due("none beyond an end", x.shift(0, 6, 1, 0, 0), PLACE);
        due("none beyond the other's end", x.shift(0, 0, 1, 5, 0), PLACE);
        x.tape(2, 2, 0);
        due("of none to none", x.shift(2, 0, 2, 0, 0), 0);
        due("one of none", x.shift(2, 0, 1, 0, 1), PLACE);
        due("one to none", x.shift(1, 0, 2, 0, 1), PLACE);
        row(x, 0, 1, 2, 3, 4, 5);
        row(x, 1, 0, 0, 0, 0);
    }

    private static void shiftUnlike() {
        sentence("CAST: of unlike sorts;");
        for (int sort = 0; sort <= 4; sort++) {
            for (int other = 0; other <= 4; other++) {
                ElevenYards x = new ElevenYards();
                x.tape(0, sort, 3);
                x.tape(1, other, 3);
                due(sort + " to " + other, x.shift(0, 0, 1, 0, 2), sort == other ? 2 : CAST);
                due(sort + " to " + other + ", none", x.shift(0, 0, 1, 0, 0), sort == other ? 0 : CAST);
                due(sort + " to " + other + ", no place", x.shift(0, 4, 1, 0, 1), sort == other ? PLACE : CAST);
            }
        }
    }

    private static void shiftRefuses() {
        sentence("NONE: tapes; NOTHING; CAST: of unlike sorts; PLACE: n, i or j is below 0, or beyond either's end.");
        ElevenYards x = withRow(2, 5);
        x.tape(2, 3, 5);
        for (int tape : beside(0, 5)) {
            due("tape " + tape, x.shift(tape, 0, 1, 0, 1), NONE);
            due("other " + tape, x.shift(0, 0, tape, 0, 1), NONE);
            due("tape ahead of nothing", x.shift(tape, -1, 4, 0, 1), NONE);
            due("other ahead of nothing", x.shift(4, -1, tape, 0, 1), NONE);
        }
        due("nothing", x.shift(4, 0, 1, 0, 1), NOTHING);
        due("nothing in the other", x.shift(0, 0, 4, 0, 1), NOTHING);
        due("nothing in both", x.shift(3, 0, 4, 0, 0), NOTHING);
        due("nothing ahead of the place", x.shift(4, -1, 1, 0, 1), NOTHING);
        due("unlike ahead of the place", x.shift(0, -1, 2, 9, -1), CAST);
        for (int off : new int[] {-1, MIN}) {
            due("n " + off, x.shift(0, 0, 1, 0, off), PLACE);
            due("i " + off, x.shift(0, off, 1, 0, 1), PLACE);
            due("j " + off, x.shift(0, 0, 1, off, 1), PLACE);
        }
        due("beyond its end by i", x.shift(0, 4, 1, 0, 2), PLACE);
        due("beyond its end by n", x.shift(1, 0, 0, 0, 5), PLACE);
        due("beyond the other's end by j", x.shift(0, 0, 1, 3, 2), PLACE);
        due("beyond the other's end by n", x.shift(0, 0, 1, 0, 5), PLACE);
        for (int far : new int[] {MAX, MAX - 1}) {
            due("i " + far, x.shift(0, far, 1, 0, 2), PLACE);
            due("j " + far, x.shift(0, 0, 1, far, 2), PLACE);
            due("n " + far, x.shift(0, 2, 1, 2, far), PLACE);
            due("all " + far, x.shift(0, far, 1, far, far), PLACE);
        }
        row(x, 0, 1, 2, 3, 4, 5);
        row(x, 1, 0, 0, 0, 0);
        due("up to both ends", x.shift(0, 1, 1, 0, 4), 4);
        row(x, 1, 2, 3, 4, 5);
    }
}
