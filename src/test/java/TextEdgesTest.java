/** Promises 1 to 5: for each sentence on THE TABLE, THE TEXT and RULES that names an edge a test of its own. */
public final class TextEdgesTest extends Checks {
    private static final String HEAD = "go 0 5 ";

    public static void main(String[] args) {
        manyCalls();
        noPlayersNoTeams();
        sides();
        tableFromNothingToSure();
        tableRefuses();
        toldRefuses();
        feedsUpToFour();
        feedRefuses();
        textOfHundred();
        textOfBytes();
        clauses();
        words();
        sideFigure();
        blanks();
        digitsOfN();
        eithersAndBoths();
        tests();
        never();
        turns();
        ahead();
        depth();
        firstFault();
        endTooEarly();
        ruleNumbers();
        ruleEmptiesTheText();
        fullRules();
        end();
    }

    private static void isRule(String text) {
        due("\"" + text + "\"", ruleAlone(text), 0);
    }

    private static void isFault(String text, int place) {
        due("\"" + text + "\"", ruleAlone(text), -10 - place);
    }

    /** What a RULE gives the left of a kicker (who 0) or a keeper (1) in a STATE. */
    private static int left(String text, int who, int l, int o, int t, int d) {
        ElevenYards x = new ElevenYards();
        rule(x, text);
        x.player(0, 0, 0);
        return x.weight(0, 0, who, 0, l, o, t, d);
    }

    private static void holds(String e, boolean does, int who, int l, int o, int t, int d) {
        String call = e + " of " + who + " in " + l + " " + o + " " + t + " " + d;
        due(call, left(HEAD + e, who, l, o, t, d), does ? 5 : 0);
    }

    private static void combined(String e, boolean does, boolean l, boolean o, boolean t) {
        holds(e, does, 0, l ? 1 : 2, o ? 1 : 0, t ? 1 : 3, 10);
    }

    private static void manyCalls() {
        sentence("An object is used for at most 512 calls after it has been made");
        ElevenYards x = new ElevenYards();
        for (int call = 1; call < 512; call++) x.table(1, 2, call % 101);
        due("the 512th", x.told(1, 2), 511 % 101);
        ElevenYards kicked = new ElevenYards();
        for (int call = 0; call < 511; call++) {
            if (call % 31 == 30) due("clear", kicked.clear(), 30);
            else due("kick", kicked.kick(0, 0, true), call % 31 + 1);
        }
        due("the 512th", kicked.count(2), 511 % 31);
    }

    private static void noPlayersNoTeams() {
        sentence("`ElevenYards()`: No PLAYERS, no teams.");
        ElevenYards used = new ElevenYards();
        rule(used, "go 0 1 l=1");
        used.player(0, 0, 0);
        manAll(used, 0);
        used.image();
        ElevenYards x = new ElevenYards();
        due("players", x.count(0), 0);
        for (int player = 0; player < 10; player++) due("of", x.of(player, 0), NONE);
        due("no image", x.undo(), STATE);
        due("the first rule", rule(x, "go 0 1 l=1"), 0);
        due("the first player", x.player(0, 0, 0), 0);
        for (int i = 0; i < 12; i++) due("nobody is at " + i, x.team(i / 6, i % 6, 0), -5);
    }

    private static void sides() {
        sentence("==== 1 SIDES 0 left, 1 middle, 2 right.");
        ElevenYards x = new ElevenYards();
        for (int i = 0; i < 9; i++) due("side " + i, x.told(i / 3, i % 3), 50);
        due("no fourth side", x.told(3, 0), NONE);
        rule(x, "go 0 7 t<9;go 2 9 t<9");
        x.player(0, 0, 0);
        int[] want = {7, 0, 9};
        for (int side = 0; side < 3; side++) due("weight", x.weight(0, 0, 0, side, 3, 3, 0, 10), want[side]);
        due("the middle", x.weight(0, 0, 0, 1, 3, 3, 9, 10), 1);
    }

    private static void tableFromNothingToSure() {
        sentence("how likely it is a goal, 0 .. 100 of a hundred (50 at first)");
        ElevenYards x = new ElevenYards();
        for (int i = 0; i < 9; i++) {
            due("at first", x.told(i / 3, i % 3), 50);
            due("below", x.table(i / 3, i % 3, -1), BAD);
            due("above", x.table(i / 3, i % 3, 101), BAD);
            due("least", x.table(i / 3, i % 3, 0), 50);
            due("most", x.table(i / 3, i % 3, 100), 0);
            due("its own", x.table(i / 3, i % 3, 10 * i), 100);
        }
        for (int i = 0; i < 9; i++) due("none is another's", x.told(i / 3, i % 3), 10 * i);
    }

    private static void tableRefuses() {
        sentence("THE TABLE for a kick's SIDE and a keeper's becomes n: what it was. NONE: sides; BAD.");
        ElevenYards x = new ElevenYards();
        for (int side : beside(0, 2)) {
            due("kick " + side, x.table(side, 0, 7), NONE);
            due("keeper " + side, x.table(0, side, 7), NONE);
            due("kick ahead of n " + side, x.table(side, 0, 101), NONE);
            due("keeper ahead of n " + side, x.table(0, side, -1), NONE);
        }
        for (int n : beside(0, 100)) due("n " + n, x.table(2, 2, n), BAD);
        for (int i = 0; i < 9; i++) due("as it was", x.told(i / 3, i % 3), 50);
    }

    private static void toldRefuses() {
        sentence("`int told(int kick, int keeper)`: THE TABLE. NONE.");
        ElevenYards x = new ElevenYards();
        x.table(2, 1, 0);
        due("told", x.told(2, 1), 0);
        for (int side : beside(0, 2)) {
            due("kick " + side, x.told(side, 2), NONE);
            due("keeper " + side, x.told(2, side), NONE);
        }
    }

    private static void feedsUpToFour() {
        sentence("The n lowest bytes of a number, the highest first (n 0 .. 4), come behind THE TEXT's: how many it has.");
        ElevenYards x = new ElevenYards();
        due("none of a number", x.feed(0x67676767, 0), 0);
        due("the lowest one", x.feed(0xffffff67, 1), 1);
        due("two", x.feed(0xffff6f20, 2), 3);
        due("three", x.feed(0xff302031, 3), 6);
        due("four", x.feed(0x206c3d31, 4), 10);
        due("go 0 1 l=1", x.rule(), 0);
        due("a number below 0", x.feed(0x80676f20, 4), 4);
        due("its highest byte comes first", x.rule(), -10);
    }

    private static void feedRefuses() {
        sentence("come behind THE TEXT's: how many it has. BAD; FULL.");
        ElevenYards x = new ElevenYards();
        for (int n : beside(0, 4)) due("n " + n, x.feed(0x67676767, n), BAD);
        due("nothing came", x.count(3), 0);
        for (int i = 0; i < 24; i++) x.feed(0x67676767, 4);
        due("98", x.feed(0x67676767, 2), 98);
        due("three are too many", x.feed(0x67676767, 3), FULL);
        due("four are too many", x.feed(0x67676767, 4), FULL);
        due("none of them came", x.count(3), 98);
        due("two are not", x.feed(0x67676767, 2), 100);
        due("one is too many", x.feed(0x67676767, 1), FULL);
        due("none is not", x.feed(0x67676767, 0), 100);
        for (int n : beside(0, 4)) due("BAD ahead of FULL " + n, x.feed(0, n), BAD);
    }

    private static void textOfHundred() {
        sentence("A RULE is read from THE TEXT (bytes, 100 at most)");
        String whole = "go 0 11 l=11" + "|l=1".repeat(22);
        ElevenYards x = new ElevenYards();
        feed(x, whole);
        due("hundred", x.count(3), 100);
        due("one more", x.feed('1', 1), FULL);
        due("they are a rule", x.rule(), 0);
        due("another one behind it", rule(x, whole), 1);
        String last = "go 0 11 l=11" + "|l=2".repeat(21) + "|l=1";
        due("its last byte counts", left(last, 0, 1, 3, 0, 10), 11);
        due("its last byte counts", left(last, 0, 3, 3, 0, 10), 0);
        isFault("go 0 11 l=11" + "|l=1".repeat(21) + "|l=z", 99);
        isFault("go 0 1 l=11" + "|l=1".repeat(22) + "|", 100);
    }

    private static void textOfBytes() {
        sentence("(bytes, 100 at most)");
        isRule("go 0 1 l=1");
        for (int place = 0; place < 10; place++) {
            char sign = "go 0 1 l=1".charAt(place);
            String ahead = "go 0 1 l=1".substring(0, place), behind = "go 0 1 l=1".substring(place + 1);
            isFault(ahead + (char) (sign + 128) + behind, place);
            isFault(ahead + (char) 0 + behind, place);
            isFault(ahead + (char) 255 + behind, place);
        }
        isFault("go 0 1 l=1" + (char) 0, 10);
    }

    private static void clauses() {
        sentence("CLAUSES, 1 to 8, with ; between");
        String go = "go 0 1 t<9";
        isFault("", 0);
        for (int n = 1; n <= 8; n++) {
            String text = go + (";" + go).repeat(n - 1);
            isRule(text);
            due(n + " clauses", left(text, 0, 3, 3, 0, 10), n);
            if (n < 8) isFault(text + ";", text.length() + 1);
        }
        String eight = go + (";" + go).repeat(7);
        isFault(eight + ";" + go, eight.length());
        isFault(eight + ";", eight.length());
        isFault(";" + go, 0);
        isFault(go + ";;" + go, 11);
        isFault(go + "," + go, 10);
        isFault(go + go, 10);
        isFault(go + "; " + go, 11);
        String press = "press 1 t<9";
        isRule(press + (";" + press).repeat(7));
        isFault(press + (";" + press).repeat(7) + ";g", 95);
    }

    private static void words() {
        sentence("with ; between: go s n E; press n E");
        isRule("go 1 9 l=1;press 9 l=1");
        isRule("press 9 l=1;go 1 9 l=1");
        for (String word : new String[] {"Go", "GO", "Press", "og", "o", "run"}) isFault(word + " 1 9 l=1", 0);
        for (String word : new String[] {"g", "goo", "gO"}) isFault(word + " 1 9 l=1", word.equals("goo") ? 2 : 1);
        isFault("pres 9 l=1", 4);
        isFault("presss 9 l=1", 5);
        isFault("press 1 9 l=1", 8);
        isFault("go 9 l=1", 3);
        isFault("go 1 l=1", 5);
    }

    private static void sideFigure() {
        sentence("(s a figure 0 .. 2;");
        for (int s = 0; s <= 2; s++) isRule("go " + s + " 1 l=1");
        isFault("go 3 1 l=1", 3);
        isFault("go / 1 l=1", 3);
        isFault("go 9 1 l=1", 3);
        isFault("go -1 1 l=1", 3);
        isFault("go 00 1 l=1", 4);
        isFault("go 02 1 l=1", 4);
        isFault("press 1 1 l=1", 8);
    }

    private static void blanks() {
        sentence("one blank ahead of each part behind the word;");
        isFault("go0 1 l=1", 2);
        isFault("go  0 1 l=1", 3);
        isFault("go 01 l=1", 4);
        isFault("go 0  1 l=1", 5);
        isFault("go 0 1l=1", 6);
        isFault("go 0 1  l=1", 7);
        isFault("go\t0 1 l=1", 2);
        isFault(" go 0 1 l=1", 0);
        isFault("g o 0 1 l=1", 1);
        isFault("press1 l=1", 5);
        isFault("press  1 l=1", 6);
        isFault("press 1l=1", 7);
        isFault("press 1  l=1", 8);
        isFault("pres s 1 l=1", 4);
        isFault("go 0 1 l =1", 8);
        isFault("go 0 1 l= 1", 9);
        isFault("go 0 1 l=1 ", 10);
        isFault("go 0 1 l=1 ;go 0 1 l=1", 10);
        isFault("go 0 1 l=1& l=1", 11);
        isFault("go 0 1 ! l=1", 8);
        isFault("go 0 1 ( l=1)", 8);
    }

    private static void digitsOfN() {
        sentence("n 1 or 2 digits)");
        String[] ns = {"0", "00", "1", "01", "9", "10", "99"};
        int[] want = {0, 0, 1, 1, 9, 10, 99};
        for (int i = 0; i < ns.length; i++) {
            due("go 0 " + ns[i], left("go 0 " + ns[i] + " t<9;go 2 1 t<9", 0, 3, 3, 0, 10), want[i]);
            isRule("press " + ns[i] + " l=1");
        }
        isFault("go 0  l=1", 5);
        isFault("go 0 l=1", 5);
        isFault("go 0 123 l=1", 7);
        isFault("go 0 001 l=1", 7);
        isFault("go 0 -1 l=1", 5);
        isFault("go 0 1: l=1", 6);
        isFault("go 0 / l=1", 5);
        isFault("go 0 : l=1", 5);
        isFault("press  l=1", 6);
        isFault("press 100 l=1", 8);
    }

    private static void eithersAndBoths() {
        sentence("E: T or T|E. T: F or F&T. F: !F, (E), or a TEST:");
        for (int bits = 0; bits < 8; bits++) {
            boolean p = (bits & 1) == 1, q = (bits & 2) == 2, r = (bits & 4) == 4;
            combined("l=1|o=1&t=1", p || q && r, p, q, r);
            combined("l=1&o=1|t=1", p && q || r, p, q, r);
            combined("(l=1|o=1)&t=1", (p || q) && r, p, q, r);
            combined("l=1&(o=1|t=1)", p && (q || r), p, q, r);
            combined("l=1|o=1|t=1", p || q || r, p, q, r);
            combined("l=1&o=1&t=1", p && q && r, p, q, r);
            combined("!l=1&o=1|t=1", !p && q || r, p, q, r);
            combined("!l=1|o=1&!t=1", !p || q && !r, p, q, r);
            combined("!(l=1|o=1)&t=1", !(p || q) && r, p, q, r);
            combined("!!l=1&!(o=1&t=1)", p && !(q && r), p, q, r);
            combined("l=1&!(o=1|!(t=1&l=1))", p && !(q || !(r && p)), p, q, r);
        }
        isFault(HEAD, 7);
        isFault(HEAD + "|l=1", 7);
        isFault(HEAD + "&l=1", 7);
        isFault(HEAD + "l=1|", 11);
        isFault(HEAD + "l=1&", 11);
        isFault(HEAD + "l=1||l=1", 11);
        isFault(HEAD + "l=1|&l=1", 11);
        isFault(HEAD + "l=1&|l=1", 11);
        isFault(HEAD + "()", 8);
        isFault(HEAD + "!", 8);
        isFault(HEAD + "!)", 8);
        isFault(HEAD + ")", 7);
        isFault(HEAD + "(l=1", 11);
        isFault(HEAD + "(l=1;go 0 1 l=1", 11);
        isFault(HEAD + "l=1)", 10);
        isFault(HEAD + "(l=1)l=1", 12);
        isFault(HEAD + "(l=1)(l=1)", 12);
        isFault(HEAD + "l=1!", 10);
        isFault(HEAD + "(l=1)!l=1", 12);
    }

    private static void tests() {
        sentence("a TEST: a letter, < or = or >, a number (1 or 2 digits)");
        holds("t<5", true, 0, 3, 3, 4, 10);
        holds("t<5", false, 0, 3, 3, 5, 10);
        holds("t=5", false, 0, 3, 3, 4, 10);
        holds("t=5", true, 0, 3, 3, 5, 10);
        holds("t=5", false, 0, 3, 3, 6, 10);
        holds("t>5", false, 0, 3, 3, 5, 10);
        holds("t>5", true, 0, 3, 3, 6, 10);
        holds("t=05", true, 0, 3, 3, 5, 10);
        holds("t<00", false, 0, 3, 3, 0, 10);
        holds("l<0", false, 0, 0, 3, 0, 10);
        holds("l<0|l=0", true, 0, 0, 3, 0, 10);
        holds("t=50", true, 0, 3, 3, 50, 10);
        isFault(HEAD + "l=", 9);
        isFault(HEAD + "l=x", 9);
        isFault(HEAD + "l=/", 9);
        isFault(HEAD + "l=:", 9);
        isFault(HEAD + "l=-1", 9);
        isFault(HEAD + "l=123", 11);
        isFault(HEAD + "l=001", 11);
        for (String sign : new String[] {";", "?", "!", "1", "l"}) isFault(HEAD + "l" + sign + "1", 8);
        for (String sign : new String[] {"<=", "==", ">=", "<>", "=<"}) isFault(HEAD + "l" + sign + "1", 9);
        for (String letter : new String[] {"k", "m", "n", "p", "s", "u", "c", "e", "L", "O", "T", "D", "3", "="}) {
            isFault(HEAD + letter + "=1", 7);
        }
        isFault(HEAD + "lo=1", 8);
    }

    private static void never() {
        sentence("l the SIDE to which he went last (3: never), o likewise the other one");
        for (int last = 0; last <= 3; last++) {
            for (int n = 0; n <= 4; n++) {
                holds("l=" + n, n == last, 0, last, (last + 1) % 4, 0, 10);
                holds("o=" + n, n == last, 0, (last + 1) % 4, last, 0, 10);
                holds("l>" + n, last > n, 0, last, 0, 0, 10);
                holds("o<" + n, last < n, 0, 0, last, 0, 10);
            }
        }
    }

    private static void turns() {
        sentence("t the TURN (0 .. 99)");
        holds("t=0", true, 0, 3, 3, 0, 10);
        holds("t<1", true, 0, 3, 3, 0, 10);
        holds("t>0", false, 0, 3, 3, 0, 10);
        holds("t=99", true, 0, 3, 3, 99, 10);
        holds("t>98", true, 0, 3, 3, 99, 10);
        holds("t>99", false, 0, 3, 3, 99, 10);
        holds("t<99", false, 0, 3, 3, 99, 10);
        due("no such turn", left(HEAD + "t=0", 0, 3, 3, -1, 10), BAD);
        due("no such turn", left(HEAD + "t=0", 0, 3, 3, 100, 10), BAD);
    }

    private static void ahead() {
        sentence("d 10 and by how many goals his own team is ahead (0 .. 20)");
        holds("d=0", true, 0, 3, 3, 0, 0);
        holds("d<1", true, 0, 3, 3, 0, 0);
        holds("d=10", true, 0, 3, 3, 0, 10);
        holds("d>19", true, 0, 3, 3, 0, 20);
        holds("d=20", true, 0, 3, 3, 0, 20);
        holds("d>20", false, 0, 3, 3, 0, 20);
        due("no such d", left(HEAD + "d=0", 0, 3, 3, 0, -1), BAD);
        due("no such d", left(HEAD + "d=0", 0, 3, 3, 0, 21), BAD);
    }

    /** Opens as many ( and ! as told, by a number's bits, around a TEST. */
    private static String nested(int many, int bits) {
        StringBuilder open = new StringBuilder();
        StringBuilder close = new StringBuilder();
        for (int i = 0; i < many; i++) {
            boolean bracket = (bits >> i & 1) == 1;
            open.append(bracket ? '(' : '!');
            close.append(bracket ? ")" : "");
        }
        return open + "l=3" + close;
    }

    private static void depth() {
        sentence("A ( or ! within 4 others is none.");
        for (int bits = 0; bits < 16; bits++) {
            isRule(HEAD + nested(4, bits));
            holds(nested(4, bits), Integer.bitCount(bits) % 2 == 0, 0, 3, 3, 0, 10);
            isRule(HEAD + nested(4, bits) + "&" + nested(4, 15 - bits) + "|" + nested(4, bits));
        }
        for (int bits = 0; bits < 32; bits++) isFault(HEAD + nested(5, bits), 11);
        isRule(HEAD + "!l=1&!!!!l=1");
        isRule(HEAD + "(!l=1&!!!l=1)");
        isFault(HEAD + "(!l=1&!!!!l=1)", 16);
        isRule(HEAD + "(((l=1)|(l=1)|!l=1)&((l=1)))");
        isRule(HEAD + "((((l=1)&!l=1|(l=1))))");
        isFault(HEAD + "((((l=1)&!!l=1)))", 17);
        isFault(HEAD + "((((l=1)|((l=1))))", 17);
        isRule(HEAD + "!!!!l=1;press 1 ((((l=1))))");
        isFault(HEAD + "!!!!l=1;press 1 (((((l=1)))))", 27);
    }

    private static void firstFault() {
        sentence("The FAULT: the place of the first byte with which none begins so");
        String text = "go 0 12 !(l<3|o=12)&t>9;press 9 d<10";
        isRule(text);
        for (int place = 0; place <= text.length(); place++) {
            isFault(text.substring(0, place) + "z" + text.substring(Math.min(text.length(), place + 1)), place);
            isFault(text.substring(0, place) + "zz", place);
        }
        isFault("go 3 123 z", 3);
        isFault("gx 3 123 z", 1);
    }

    private static void endTooEarly() {
        sentence("(the end of THE TEXT, if it ends too early)");
        String text = "go 0 12 !(l<3|o=12)&t>9;press 9 d<10";
        for (int length = 0; length <= text.length(); length++) {
            if (length == 19 || length == 23 || length == 35 || length == 36) isRule(text.substring(0, length));
            else isFault(text.substring(0, length), length);
        }
    }

    private static void ruleNumbers() {
        sentence("RULES are numbered 0 .. 6, as they come.");
        ElevenYards x = new ElevenYards();
        for (int n = 0; n < 7; n++) {
            due("a fault takes no number", rule(x, "go 9"), -13);
            due("as they come", rule(x, "go 0 " + (n + 1) + " t<9"), n);
            due("how many", x.count(1), n + 1);
        }
        for (int n = 0; n < 7; n++) {
            due("a player of it", x.player(0, 0, n), n);
            due("his rule", x.weight(n, n, 0, 0, 3, 3, 0, 10), n + 1);
        }
        due("there is no eighth", x.player(0, 0, 7), NONE);
    }

    private static void ruleEmptiesTheText() {
        sentence("THE TEXT, which is empty then, is a RULE: its number.");
        ElevenYards x = new ElevenYards();
        due("a rule", rule(x, "go 0 1 l=1"), 0);
        due("empty", x.count(3), 0);
        due("an empty text is none", x.rule(), -10);
        due("a fault", rule(x, "go 0 1 l=z"), -19);
        due("empty", x.count(3), 0);
        due("nothing of it is left", rule(x, "press 1 l=1"), 1);
        feed(x, "z".repeat(100));
        due("a fault of hundred", x.rule(), -10);
        due("there is room again", x.feed(0, 4), 4);
    }

    private static void fullRules() {
        sentence("FULL: there are 7 (THE TEXT stays); -10 less the FAULT.");
        ElevenYards x = new ElevenYards();
        for (int n = 0; n < 7; n++) rule(x, "go 0 1 l=1");
        due("an empty text", x.rule(), FULL);
        due("a rule", rule(x, "go 0 1 l=1"), FULL);
        due("the text stays", x.count(3), 10);
        due("ahead of the fault", rule(x, "z"), FULL);
        due("the text stays", x.count(3), 11);
        due("seven", x.count(1), 7);
        isFault("", 0);
        isFault("z", 0);
        isFault("go 0 11 l=11" + "|l=1".repeat(21) + "|l=z", 99);
        isFault("go 0 1 l=11" + "|l=1".repeat(22) + "|", 100);
    }
}
