import java.io.IOException;
import java.io.UncheckedIOException;
import java.nio.charset.StandardCharsets;
import java.nio.file.Files;
import java.nio.file.Path;

/** What the tests by hand share: counting answers that are not as due, and objects that are ready to be asked. */
abstract class Checks {
    static final int NONE = -1, BAD = -2, STATE = -3, FULL = -4, NOTHING = -11, CAST = -12, PLACE = -13, SIZE = -14;
    static final int WIN_NONE = -1000001, WIN_STATE = -1000002;
    static final long NO = Long.MIN_VALUE;
    static final int MIN = Integer.MIN_VALUE, MAX = Integer.MAX_VALUE;

    private static int wrong = 0;
    private static int asked = 1;
    private static String about = "";
    private static String document = "";

    /** What the next calls are about; what came ahead of it must have asked something. */
    static void about(String words) {
        close();
        about = words;
        asked = 0;
    }

    private static void close() {
        if (asked == 0) fail("nothing was asked about it");
        asked = 1;
    }

    /** As about, with words that must stand in the document, so that no test outlives its sentence. */
    static void sentence(String words) {
        about(words);
        if (!document().contains(words)) fail("the document has no such words");
    }

    private static String document() {
        if (document.isEmpty()) {
            try {
                String text = Files.readString(Path.of("../shared/DOC.md"), StandardCharsets.UTF_8);
                document = text.replaceAll("\\s+", " ");
            } catch (IOException e) {
                throw new UncheckedIOException(e);
            }
        }
        return document;
    }

    private static void fail(String what) {
        wrong++;
        System.out.println(about + " -- " + what);
    }

    static void due(String call, long got, long want) {
        asked++;
        if (got != want) fail(call + " answered " + got + ", due is " + want);
    }

    static void fraction(String call, long above, long below, long wantAbove, long wantBelow) {
        due(call + " above", above, wantAbove);
        due(call + " below", below, wantBelow);
    }

    static void end() {
        close();
        if (wrong > 0) System.exit(1);
    }

    /** Four bytes a call, for an object has 512 calls. */
    static void feed(ElevenYards x, String text) {
        for (int i = 0; i < text.length(); i += 4) {
            int n = Math.min(4, text.length() - i);
            int bytes = 0;
            for (int k = 0; k < n; k++) bytes = bytes << 8 | text.charAt(i + k);
            x.feed(bytes, n);
        }
    }

    static int rule(ElevenYards x, String text) {
        feed(x, text);
        return x.rule();
    }

    /** What a new object answers to a text: 0 if it is a RULE. */
    static int ruleAlone(String text) {
        return rule(new ElevenYards(), text);
    }

    /** A new object whose table is same where both go to one side, apart elsewhere. */
    static ElevenYards withTable(int same, int apart) {
        ElevenYards x = new ElevenYards();
        for (int i = 0; i < 9; i++) x.table(i / 3, i % 3, i / 3 == i % 3 ? same : apart);
        return x;
    }

    /** All twelve places of both teams are a PLAYER's. */
    static void manAll(ElevenYards x, int player) {
        for (int i = 0; i < 12; i++) x.team(i / 6, i % 6, player);
    }

    /** Numbers beside low .. high, and far off. */
    static int[] beside(int low, int high) {
        return new int[] {low - 1, high + 1, MIN, MAX};
    }
}
