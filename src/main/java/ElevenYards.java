import java.util.Arrays;

/** Penalty kicks from eleven yards; ../shared/DOC.md says what each call promises. */
public final class ElevenYards {
    public static final int NONE = -1, BAD = -2, STATE = -3, FULL = -4;
    public static final long NO = Long.MIN_VALUE;

    private static final int NOTHING = -11, CAST = -12, PLACE = -13, SIZE = -14;
    private static final int WIN_NONE = -1000001, WIN_STATE = -1000002;
    private static final int NOBODY = -5, NO_KICKS = -5, TOO_MANY_KICKS = -9;

    private static final int SIDES = 3, MIDDLE = 1, NO_SIDE = -1, NEVER = 3;
    private static final int KICKER = 0, KEEPER = 1;
    private static final int RULES_MOST = 7, PLAYERS_MOST = 10, TEXT_MOST = 100;
    private static final int KINDS = 7, KICKS_MOST = 30, TRACE_MOST = 20;
    private static final int TURNS_MOST = 99, LEVEL = 10, AHEAD_MOST = 20;
    private static final int WEIGHT_MOST = 99, TWENTIETHS = 20;
    private static final int TAPES = 6, TAPE_MOST = 60, SORTS = 5, EMPTY = -1;
    private static final int MEMBERS = 6, ROW = 5, KEEPER_PLACE = 5, TURNS = 10;
    private static final long MILLION = 1000000L;

    private final Reader reader = new Reader();
    private final int[][] rules = new int[RULES_MOST][TEXT_MOST];
    private int ruleCount = 0;
    private final Player[] players = new Player[PLAYERS_MOST];
    private int playerCount = 0;
    private final Duel duel = new Duel();
    private final Kicks kicks = new Kicks();
    private final ShootOut shootOut = new ShootOut();
    // THE TRACE: how many bodies ran, and behind that the first of them.
    private final int[] log = new int[1 + TRACE_MOST];
    private boolean hasImage = false;
    private final int[] imageCells = new int[SIDES * SIDES];
    private final Kicks imageKicks = new Kicks();
    private final Player[] imageMembers = new Player[2 * MEMBERS];
    private final int[] sorts = new int[TAPES];
    private final int[] sizes = new int[TAPES];
    private final long[][] items = new long[TAPES][TAPE_MOST];

    public ElevenYards() {
        Arrays.fill(sorts, EMPTY);
    }

    // ---- the table, rules, players

    public int table(int kick, int keeper, int n) {
        if (!isSide(kick) || !isSide(keeper)) {
            return NONE;
        }
        if (n < 0 || n > 100) {
            return BAD;
        }
        int was = duel.cells[kick * SIDES + keeper];
        duel.cells[kick * SIDES + keeper] = n;
        duel.settleMixes();
        return was;
    }

    public int told(int kick, int keeper) {
        if (!isSide(kick) || !isSide(keeper)) {
            return NONE;
        }
        return duel.cells[kick * SIDES + keeper];
    }

    public int feed(int bytes, int n) {
        if (n < 0 || n > 4) {
            return BAD;
        }
        if (reader.length + n > TEXT_MOST) {
            return FULL;
        }
        for (int i = n - 1; i >= 0; i--) {
            reader.addByte(bytes >>> (8 * i) & 255);
        }
        return reader.length;
    }

    public int rule() {
        if (ruleCount >= RULES_MOST) {
            return FULL;
        }
        boolean isRule = reader.parses();
        reader.length = 0;
        if (!isRule) {
            return -10 - reader.place;
        }
        System.arraycopy(reader.codes, 0, rules[ruleCount], 0, reader.made);
        ruleCount++;
        return ruleCount - 1;
    }

    public int player(int kind, int v, int rule) {
        if (kind < 0 || kind >= KINDS || rule < 0 || rule >= ruleCount) {
            return NONE;
        }
        if (!isSide(v)) {
            return BAD;
        }
        if (playerCount >= PLAYERS_MOST) {
            return FULL;
        }
        players[playerCount] = newPlayer(kind, v, rule);
        playerCount++;
        return playerCount - 1;
    }

    public int of(int player, int what) {
        Player asked = playerOrNull(player);
        if (asked == null) {
            return NONE;
        }
        switch (what) {
            case 0: return asked.kind;
            case 1: return asked.v;
            case 2: return asked.rule;
            default: return NONE;
        }
    }

    private static boolean isSide(int side) {
        return side >= 0 && side < SIDES;
    }

    private static boolean isWho(int who) {
        return who == KICKER || who == KEEPER;
    }

    private static boolean isPart(int part) {
        return part == 0 || part == 1;
    }

    private static boolean isState(int l, int o, int t, int d) {
        return l >= 0 && l <= NEVER && o >= 0 && o <= NEVER && t >= 0 && t <= TURNS_MOST && d >= 0 && d <= AHEAD_MOST;
    }

    private Player playerOrNull(int player) {
        return player >= 0 && player < playerCount ? players[player] : null;
    }

    private Player newPlayer(int kind, int v, int rule) {
        int[] codes = rules[rule];
        switch (kind) {
            case 1: return new Own(kind, playerCount, v, rule, codes, log);
            case 2: return new Mixed(kind, playerCount, v, rule, codes, log);
            case 3: return new Turning(kind, playerCount, v, rule, codes, log);
            case 4: return new Waiting(kind, playerCount, v, rule, codes, log);
            case 5: return new Noted(kind, playerCount, v, rule, codes, log);
            case 6: return new Staying(kind, playerCount, v, rule, codes, log);
            default: return new Player(kind, playerCount, v, rule, codes, log);
        }
    }

    // ---- what neither would leave, weights, odds

    public int rest(int who, int what) {
        if (!isWho(who) || what < 0 || what > SIDES) {
            return NONE;
        }
        return what == SIDES ? duel.bounds[who] : duel.mixes[who][what];
    }

    public int gap() {
        return duel.bounds[KEEPER] - duel.bounds[KICKER];
    }

    public int weight(int kicker, int keeper, int who, int side, int l, int o, int t, int d) {
        Player kicks = playerOrNull(kicker);
        Player keeps = playerOrNull(keeper);
        if (kicks == null || keeps == null || !isWho(who) || !isSide(side)) {
            return NONE;
        }
        if (!isState(l, o, t, d)) {
            return BAD;
        }
        duel.setState(l, o, t, d);
        duel.meet(kicks, keeps);
        return duel.weights[who][side];
    }

    public int reply(int kicker, int keeper, int who, int l, int o, int t, int d) {
        Player kicks = playerOrNull(kicker);
        Player keeps = playerOrNull(keeper);
        if (kicks == null || keeps == null || !isWho(who)) {
            return NONE;
        }
        if (!isState(l, o, t, d)) {
            return BAD;
        }
        duel.setState(l, o, t, d);
        duel.meet(kicks, keeps);
        return duel.replySide(who);
    }

    public long odds(int kicker, int keeper, int what, int l, int o, int t, int d, int part) {
        Player kicks = playerOrNull(kicker);
        Player keeps = playerOrNull(keeper);
        if (kicks == null || keeps == null || !isState(l, o, t, d) || what < 0 || what > 1 || !isPart(part)) {
            return NO;
        }
        duel.setState(l, o, t, d);
        if (what == 0) {
            duel.score(kicks, keeps, 0);
        } else {
            duel.scoreBottle(kicks, keeps);
        }
        return part == 0 ? duel.above : duel.below;
    }

    public long leak(int kicker, int keeper, int n, int t, int d, int part) {
        Player kicks = playerOrNull(kicker);
        Player keeps = playerOrNull(keeper);
        if (kicks == null || keeps == null || n < 0 || n > 100 || !isState(NEVER, NEVER, t, d) || !isPart(part)) {
            return NO;
        }
        duel.setState(NEVER, NEVER, t, d);
        duel.score(kicks, keeps, n);
        return part == 0 ? duel.above : duel.below;
    }

    // ---- kicks that were

    public int kick(int side, int keeper, boolean goal) {
        if (!isSide(side) || !isSide(keeper)) {
            return NONE;
        }
        if (kicks.size >= KICKS_MOST) {
            return FULL;
        }
        kicks.addKick(side, goal);
        return kicks.size;
    }

    public int clear() {
        int were = kicks.size;
        kicks.size = 0;
        return were;
    }

    public int does(int side) {
        return isSide(side) ? kicks.goalsOfThousand(side) : NONE;
    }

    public int shows(int what) {
        switch (what) {
            case 0: return kicks.farApart();
            case 1: return kicks.runs();
            default: return NONE;
        }
    }

    public int likely(int part) {
        if (!isPart(part)) {
            return NONE;
        }
        return kicks.size > Kicks.ORDERED_MOST ? TOO_MANY_KICKS : kicks.runsShare(part);
    }

    // ---- shoot-outs

    public int team(int team, int i, int player) {
        Player joins = playerOrNull(player);
        if (team < 0 || team > 1 || i < 0 || i >= MEMBERS || joins == null) {
            return NONE;
        }
        Player was = shootOut.members[team * MEMBERS + i];
        shootOut.members[team * MEMBERS + i] = joins;
        return was == null ? NOBODY : was.number;
    }

    public int win(int what) {
        if (what < 0 || what > 1) {
            return WIN_NONE;
        }
        if (!shootOut.isManned()) {
            return WIN_STATE;
        }
        shootOut.playBack(duel, 0);
        int asFirst = shootOut.wins[0][0];
        if (what == 0) {
            return asFirst;
        }
        shootOut.playBack(duel, 1);
        return asFirst - ((int) MILLION - shootOut.wins[0][0]);
    }

    public int at(int turn, int a, int b) {
        if (turn < 0 || turn > TURNS || a < 0 || a > (turn + 1) / 2 || b < 0 || b > turn / 2) {
            return WIN_NONE;
        }
        if (!shootOut.isManned()) {
            return WIN_STATE;
        }
        shootOut.playBack(duel, 0);
        return shootOut.wins[turn][ShootOut.scoreIndex(a, b)];
    }

    public int order(int i) {
        if (i < -1 || i >= ROW) {
            return WIN_NONE;
        }
        if (!shootOut.isManned()) {
            return WIN_STATE;
        }
        shootOut.seekOrder(duel);
        return i < 0 ? shootOut.bestWin : shootOut.bestRow / ShootOut.TENS[i] % 10;
    }

    // ---- judging, the image, acts, tapes

    public int judge(int tape, int i) {
        if (!isTape(tape)) {
            return NONE;
        }
        if (sorts[tape] == EMPTY) {
            return 1000;
        }
        return sorts[tape] == 0 ? ShootOut.judged(items[tape], sizes[tape], i) : CAST;
    }

    public int image() {
        hasImage = true;
        System.arraycopy(duel.cells, 0, imageCells, 0, imageCells.length);
        copyMembers(shootOut.members, imageMembers);
        imageKicks.copyFrom(kicks);
        return kicks.size;
    }

    public int undo() {
        if (!hasImage) {
            return STATE;
        }
        System.arraycopy(imageCells, 0, duel.cells, 0, imageCells.length);
        duel.settleMixes();
        copyMembers(imageMembers, shootOut.members);
        kicks.copyFrom(imageKicks);
        return kicks.size;
    }

    public int act(int player, int act, int x) {
        log[0] = 0;
        Player acting = playerOrNull(player);
        if (acting == null) {
            return 0;
        }
        switch (act) {
            case 0: return acting.looks(x);
            case 1: return acting.goes(x);
            case 2: return acting.tells(x);
            default: return 0;
        }
    }

    public int trace(int i) {
        return i >= 0 && i < TRACE_MOST && i < log[0] ? log[1 + i] : NONE;
    }

    public int taken(int player, int k) {
        if (k < 0 || k >= KINDS) {
            return BAD;
        }
        Player asked = playerOrNull(player);
        if (asked == null) {
            return NOTHING;
        }
        return isOfKind(asked, k) ? asked.kind : CAST;
    }

    public int count(int what) {
        switch (what) {
            case 0: return playerCount;
            case 1: return ruleCount;
            case 2: return kicks.size;
            case 3: return reader.length;
            case 4: return log[0];
            default: return BAD;
        }
    }

    public int tape(int tape, int sort, int n) {
        if (!isTape(tape)) {
            return NONE;
        }
        if (sort == EMPTY) {
            sorts[tape] = EMPTY;
            sizes[tape] = 0;
            return 1;
        }
        if (sort < 0 || sort >= SORTS || n > TAPE_MOST) {
            return BAD;
        }
        if (n < 0) {
            return SIZE;
        }
        sorts[tape] = sort;
        sizes[tape] = n;
        Arrays.fill(items[tape], 0L);
        return 1;
    }

    public int item(int tape, int i, long v) {
        if (!isTape(tape)) {
            return NONE;
        }
        if (sorts[tape] == EMPTY) {
            return NOTHING;
        }
        if (i < 0 || i >= sizes[tape]) {
            return PLACE;
        }
        items[tape][i] = lowestBits(sorts[tape], v);
        return 1;
    }

    public long read(int tape, int i) {
        // A TAPE that holds nothing has the size 0, so it has no place either.
        if (!isTape(tape) || i < 0 || i >= sizes[tape]) {
            return NO;
        }
        return items[tape][i];
    }

    public int shift(int tape, int i, int other, int j, int n) {
        if (!isTape(tape) || !isTape(other)) {
            return NONE;
        }
        if (sorts[tape] == EMPTY || sorts[other] == EMPTY) {
            return NOTHING;
        }
        if (sorts[tape] != sorts[other]) {
            return CAST;
        }
        if (!isStretch(i, n, sizes[tape]) || !isStretch(j, n, sizes[other])) {
            return PLACE;
        }
        System.arraycopy(items[tape], i, items[other], j, n);
        return n;
    }

    private static void copyMembers(Player[] from, Player[] to) {
        for (int i = 0; i < from.length && i < to.length; i++) {
            to[i] = from[i];
        }
    }

    private static boolean isOfKind(Player asked, int k) {
        switch (k) {
            case 1: return asked instanceof Own;
            case 2: return asked instanceof Mixed;
            case 3: return asked instanceof Turning;
            case 4: return asked instanceof Waiting;
            case 5: return asked instanceof Noted;
            case 6: return asked instanceof Staying;
            default: return true;
        }
    }

    private static boolean isTape(int tape) {
        return tape >= 0 && tape < TAPES;
    }

    private static boolean isStretch(int from, int n, int size) {
        // Not from + n <= size: that sum could wrap.
        return from >= 0 && n >= 0 && from <= size && n <= size - from;
    }

    private static long lowestBits(int sort, long v) {
        switch (sort) {
            case 0: return (byte) v;
            case 1: return (short) v;
            case 2: return (int) v;
            case 4: return v != 0 ? 1 : 0;
            default: return v;
        }
    }

    /**
     * THE TEXT, and the reading of it as a RULE. A RULE is kept as codes that are followed from the left on:
     * a test puts its answer on a stack, ! & | work on the stack's top, and a clause ends with taking its answer off.
     */
    private static final class Reader {
        static final int END = 0, TEST = 1, NOT = 2, AND = 3, OR = 4, GAIN = 5;
        static final int PRESS = 3;
        private static final int CLAUSES_MOST = 8, DEPTH_MOST = 4, FIGURES_MOST = 2;

        final int[] text = new int[TEXT_MOST];
        final int[] codes = new int[TEXT_MOST];
        int length = 0;
        int made = 0;
        int place = 0;
        private boolean fault = false;

        void addByte(int value) {
            if (length < TEXT_MOST) {
                text[length] = value;
                length++;
            }
        }

        /** Whether THE TEXT is a RULE; if not, place is the FAULT's, for nothing is passed that is not as it must be. */
        boolean parses() {
            place = 0;
            made = 0;
            fault = false;
            parseClause();
            for (int i = 1; i < CLAUSES_MOST && sees(';'); i++) {
                place++;
                parseClause();
            }
            return !fault && place == length;
        }

        private void parseClause() {
            int gains = PRESS;
            if (sees('g')) {
                pass("go ");
                gains = passOneOf("012");
                pass(" ");
            } else {
                pass("press ");
            }
            int n = passNumber();
            pass(" ");
            parseEither(0);
            make(GAIN, gains, 0, n);
        }

        private void parseEither(int depth) {
            parseBoth(depth);
            for (int i = 0; i < TEXT_MOST && sees('|'); i++) {
                place++;
                parseBoth(depth);
                make(OR, 0, 0, 0);
            }
        }

        private void parseBoth(int depth) {
            parseSingle(depth);
            for (int i = 0; i < TEXT_MOST && sees('&'); i++) {
                place++;
                parseSingle(depth);
                make(AND, 0, 0, 0);
            }
        }

        private void parseSingle(int depth) {
            if (depth < DEPTH_MOST && sees('!')) {
                place++;
                parseSingle(depth + 1);
                make(NOT, 0, 0, 0);
            } else if (depth < DEPTH_MOST && sees('(')) {
                place++;
                parseEither(depth + 1);
                pass(")");
            } else {
                int letter = passOneOf("lotd");
                int sign = passOneOf("<=>");
                make(TEST, letter, sign, passNumber());
            }
        }

        private boolean sees(char sign) {
            return !fault && place < length && text[place] == sign;
        }

        private void pass(String word) {
            for (int i = 0; i < word.length(); i++) {
                if (sees(word.charAt(i))) {
                    place++;
                } else {
                    fault = true;
                }
            }
        }

        private int passOneOf(String signs) {
            for (int i = 0; i < signs.length(); i++) {
                if (sees(signs.charAt(i))) {
                    place++;
                    return i;
                }
            }
            fault = true;
            return 0;
        }

        private int passNumber() {
            int from = place;
            int n = 0;
            for (int i = 0; i < FIGURES_MOST && seesFigure(); i++) {
                n = n * 10 + (text[place] - '0');
                place++;
            }
            fault = fault || place == from;
            return n;
        }

        private boolean seesFigure() {
            return !fault && place < length && text[place] >= '0' && text[place] <= '9';
        }

        private void make(int code, int first, int second, int n) {
            if (made < TEXT_MOST) {
                codes[made] = code | first << 3 | second << 5 | n << 7;
                made++;
            }
        }
    }

    /**
     * A PLAYER, and KIND 0 of them; each KIND under it changes how he weighs and what he does.
     * What overrides bears no annotation, for LANGUAGE.md lists none.
     */
    private static class Player {
        final int kind, number, v, rule;
        final int[] codes;
        private final int[] log;

        Player(int kind, int number, int v, int rule, int[] codes, int[] log) {
            this.kind = kind;
            this.number = number;
            this.v = v;
            this.rule = rule;
            this.codes = codes;
            this.log = log;
        }

        /** Whether his WEIGHTS hang on the other one's. */
        boolean heeds() {
            return false;
        }

        /** Turns what his RULE gives each SIDE into his KIND's WEIGHTS; last: where he went, reply: NO_SIDE if he can't know. */
        void weigh(int[] sides, int[] mix, int last, int reply) {
            // Of KIND 0 what the RULE gives is all.
        }

        int looks(int x) {
            begin(10);
            return x + number;
        }

        int goes(int x) {
            begin(11);
            return looks(x) - v;
        }

        int tells(int x) {
            begin(12);
            return goes(x) * 2;
        }

        final void begin(int body) {
            if (log[0] >= 0 && log[0] < TRACE_MOST) {
                log[1 + log[0]] = body;
            }
            log[0]++;
        }
    }

    private static class Own extends Player {
        private static final int OWN_SIDE_MORE = 30;

        Own(int kind, int number, int v, int rule, int[] codes, int[] log) {
            super(kind, number, v, rule, codes, log);
        }

        void weigh(int[] sides, int[] mix, int last, int reply) {
            if (v >= 0 && v < SIDES) {
                sides[v] += OWN_SIDE_MORE;
            }
        }

        int goes(int x) {
            begin(20);
            return super.goes(x) ^ 6;
        }
    }

    private static class Mixed extends Player {
        Mixed(int kind, int number, int v, int rule, int[] codes, int[] log) {
            super(kind, number, v, rule, codes, log);
        }

        void weigh(int[] sides, int[] mix, int last, int reply) {
            System.arraycopy(mix, 0, sides, 0, SIDES);
        }

        int looks(int x) {
            begin(30);
            return super.looks(x * 3);
        }
    }

    private static final class Turning extends Player {
        Turning(int kind, int number, int v, int rule, int[] codes, int[] log) {
            super(kind, number, v, rule, codes, log);
        }

        void weigh(int[] sides, int[] mix, int last, int reply) {
            if (isSide(last)) {
                sides[last] = 0;
            }
        }

        int tells(int x) {
            begin(40);
            return super.tells(x) + goes(1);
        }
    }

    private static final class Waiting extends Own {
        private static final int REPLY_TIMES = 3;

        Waiting(int kind, int number, int v, int rule, int[] codes, int[] log) {
            super(kind, number, v, rule, codes, log);
        }

        boolean heeds() {
            return true;
        }

        void weigh(int[] sides, int[] mix, int last, int reply) {
            super.weigh(sides, mix, last, reply);
            if (isSide(reply)) {
                sides[reply] *= REPLY_TIMES;
            }
        }

        int looks(int x) {
            begin(50);
            return -super.looks(x);
        }

        int goes(int x) {
            begin(51);
            return super.goes(x + 1);
        }
    }

    private static final class Noted extends Mixed {
        Noted(int kind, int number, int v, int rule, int[] codes, int[] log) {
            super(kind, number, v, rule, codes, log);
        }

        boolean heeds() {
            return true;
        }

        void weigh(int[] sides, int[] mix, int last, int reply) {
            if (isSide(reply)) {
                Arrays.fill(sides, 0);
                sides[reply] = 1;
            } else {
                super.weigh(sides, mix, last, reply);
            }
        }

        int tells(int x) {
            begin(60);
            return super.tells(x - number);
        }
    }

    private static final class Staying extends Mixed {
        private static final int MIDDLE_MORE = 5;

        Staying(int kind, int number, int v, int rule, int[] codes, int[] log) {
            super(kind, number, v, rule, codes, log);
        }

        void weigh(int[] sides, int[] mix, int last, int reply) {
            super.weigh(sides, mix, last, reply);
            sides[MIDDLE] += v * MIDDLE_MORE;
        }

        int goes(int x) {
            begin(70);
            return super.goes(x) + super.looks(2);
        }

        int looks(int x) {
            begin(71);
            return super.looks(x) ^ v;
        }
    }

    /** THE TABLE, REST, and what a kicker and a keeper make of it in a STATE. */
    private static final class Duel {
        final int[] cells = new int[SIDES * SIDES];
        final int[][] mixes = new int[2][SIDES];
        final int[] bounds = new int[2];
        private final int[][] states = new int[2][4];
        // Behind the three SIDES stands what the RULE gives for press.
        final int[][] weights = new int[2][SIDES + 1];
        private int pressed = 0;
        long above = 0;
        long below = 1;

        Duel() {
            Arrays.fill(cells, 50);
            settleMixes();
        }

        void settleMixes() {
            settleMix(KICKER);
            settleMix(KEEPER);
        }

        private void settleMix(int who) {
            boolean any = false;
            for (int left = 0; left <= TWENTIETHS; left++) {
                for (int middle = 0; middle <= TWENTIETHS - left; middle++) {
                    int right = TWENTIETHS - left - middle;
                    int chance = worstChance(who, left, middle, right);
                    if (!any || isBetter(who, chance, bounds[who])) {
                        any = true;
                        bounds[who] = chance;
                        mixes[who][0] = left;
                        mixes[who][1] = middle;
                        mixes[who][2] = right;
                    }
                }
            }
        }

        private int worstChance(int who, int left, int middle, int right) {
            int worst = 0;
            for (int other = 0; other < SIDES; other++) {
                int chance = left * cell(who, 0, other) + middle * cell(who, 1, other) + right * cell(who, 2, other);
                if (other == 0 || isBetter(1 - who, chance, worst)) {
                    worst = chance;
                }
            }
            return worst;
        }

        private int cell(int who, int own, int other) {
            return who == KICKER ? cells[own * SIDES + other] : cells[other * SIDES + own];
        }

        private static boolean isBetter(int who, int chance, int than) {
            return who == KICKER ? chance > than : chance < than;
        }

        void setState(int l, int o, int t, int d) {
            setSeen(states[KICKER], l, o, t, d);
            setSeen(states[KEEPER], o, l, t, AHEAD_MOST - d);
        }

        private static void setSeen(int[] state, int l, int o, int t, int d) {
            state[0] = l;
            state[1] = o;
            state[2] = t;
            state[3] = d;
        }

        /** WEIGHTS of both: who heeds the other one comes behind him; of two that heed neither knows. */
        void meet(Player kicker, Player keeper) {
            if (kicker.heeds()) {
                weighOne(KEEPER, keeper, kicker);
                weighOne(KICKER, kicker, keeper);
            } else {
                weighOne(KICKER, kicker, keeper);
                weighOne(KEEPER, keeper, kicker);
            }
        }

        private void weighOne(int who, Player self, Player other) {
            int[] sides = weights[who];
            follow(self.codes, states[who], sides);
            if (who == KICKER) {
                pressed = Math.min(WEIGHT_MOST, sides[Reader.PRESS]);
            }
            int reply = self.heeds() && !other.heeds() ? replySide(who) : NO_SIDE;
            self.weigh(sides, mixes[who], states[who][0], reply);
            temper(sides);
        }

        /** Follows a RULE's codes; the stack is the bits of a number, for no RULE needs more than 11 of them. */
        private static void follow(int[] codes, int[] state, int[] gains) {
            Arrays.fill(gains, 0);
            int stack = 0;
            for (int i = 0; i < codes.length && codes[i] != Reader.END; i++) {
                int first = codes[i] >> 3 & 3;
                int n = codes[i] >> 7;
                int top = stack & 1;
                switch (codes[i] & 7) {
                    case Reader.TEST:
                        stack = stack << 1 | (holds(state[first], codes[i] >> 5 & 3, n) ? 1 : 0);
                        break;
                    case Reader.NOT:
                        stack = stack ^ 1;
                        break;
                    case Reader.AND:
                        stack = top == 1 ? stack >> 1 : stack >> 1 & ~1;
                        break;
                    case Reader.OR:
                        stack = stack >> 1 | top;
                        break;
                    default:
                        gains[first] += top * n;
                        stack = stack >> 1;
                }
            }
        }

        private static boolean holds(int value, int sign, int n) {
            switch (sign) {
                case 0: return value < n;
                case 1: return value == n;
                default: return value > n;
            }
        }

        private static void temper(int[] sides) {
            int all = 0;
            for (int side = 0; side < SIDES; side++) {
                sides[side] = Math.min(WEIGHT_MOST, sides[side]);
                all += sides[side];
            }
            if (all == 0) {
                sides[MIDDLE] = 1;
            }
        }

        /** REPLY to the WEIGHTS that the other one has now. */
        int replySide(int who) {
            int[] others = weights[1 - who];
            int best = 0;
            int bestChance = 0;
            for (int side = 0; side < SIDES; side++) {
                int chance = 0;
                for (int other = 0; other < SIDES; other++) {
                    chance += others[other] * cell(who, side, other);
                }
                if (side == 0 || isBetter(who, chance, bestChance)) {
                    best = side;
                    bestChance = chance;
                }
            }
            return best;
        }

        /** LEAK seen, in lowest terms; seen 0: ODDS. */
        void score(Player kicker, Player keeper, int seen) {
            meet(kicker, keeper);
            weighGoals(seen);
            reduce();
        }

        void scoreBottle(Player kicker, Player keeper) {
            score(kicker, keeper, 0);
            long bareAbove = above;
            long bareBelow = below;
            score(kicker, new Noted(5, keeper.number, keeper.v, keeper.rule, keeper.codes, keeper.log), 0);
            above = above * bareBelow - bareAbove * below;
            below = below * bareBelow;
            reduce();
        }

        /** CHANCE, by the WEIGHTS of those who met last. */
        int millionths() {
            weighGoals(0);
            return below > 0 ? (int) (above * MILLION / below) : 0;
        }

        private void weighGoals(int seen) {
            long kicked = 0;
            long kept = 0;
            for (int side = 0; side < SIDES; side++) {
                kicked += weights[KICKER][side];
                kept += weights[KEEPER][side];
            }
            long goals = 0;
            for (int side = 0; side < SIDES; side++) {
                long guessed = 0;
                long known = 100;
                for (int dive = 0; dive < SIDES; dive++) {
                    guessed += weights[KEEPER][dive] * cell(KICKER, side, dive);
                    known = Math.min(known, cell(KICKER, side, dive));
                }
                goals += weights[KICKER][side] * (seen * known * kept + (100 - seen) * guessed);
            }
            above = goals * (100 - pressed);
            below = kicked * kept * MILLION;
        }

        private void reduce() {
            long divisor = Math.abs(above);
            long rest = below;
            // Euclid's steps on longs are fewer than 100.
            for (int i = 0; i < 100 && rest != 0; i++) {
                long left = divisor % rest;
                divisor = rest;
                rest = left;
            }
            if (divisor > 1) {
                above /= divisor;
                below /= divisor;
            }
        }
    }

    /** KICKS that were; the keeper's SIDE is not kept, for nothing asks for it. */
    private static final class Kicks {
        static final int ORDERED_MOST = 9;

        private final int[] sides = new int[KICKS_MOST];
        private final int[] goals = new int[KICKS_MOST];
        int size = 0;
        private final int[] toPlace = new int[SIDES];
        private int allOrders = 0;
        private int manyRuns = 0;

        void addKick(int side, boolean goal) {
            if (size < KICKS_MOST) {
                sides[size] = side;
                goals[size] = goal ? 1 : 0;
                size++;
            }
        }

        void copyFrom(Kicks other) {
            size = other.size;
            System.arraycopy(other.sides, 0, sides, 0, KICKS_MOST);
            System.arraycopy(other.goals, 0, goals, 0, KICKS_MOST);
        }

        int goalsOfThousand(int side) {
            int tries = 0;
            int scored = 0;
            for (int i = 0; i < size; i++) {
                if (sides[i] == side) {
                    tries++;
                    scored += goals[i];
                }
            }
            return tries == 0 ? NO_KICKS : scored * 1000 / tries;
        }

        int farApart() {
            int best = -1;
            int worst = 1001;
            for (int side = 0; side < SIDES; side++) {
                int does = goalsOfThousand(side);
                if (does != NO_KICKS) {
                    best = Math.max(best, does);
                    worst = Math.min(worst, does);
                }
            }
            return Math.max(0, best - worst);
        }

        int runs() {
            int runs = 0;
            for (int i = 0; i < size; i++) {
                if (i == 0 || sides[i] != sides[i - 1]) {
                    runs++;
                }
            }
            return runs;
        }

        /** LIKELY of RUNS, of ORDERED_MOST KICKS at the most. */
        int runsShare(int part) {
            Arrays.fill(toPlace, 0);
            for (int i = 0; i < size; i++) {
                toPlace[sides[i]]++;
            }
            allOrders = 0;
            manyRuns = 0;
            placeNext(Math.min(size, ORDERED_MOST), NO_SIDE, -runs());
            int divisor = commonDivisor(allOrders, manyRuns);
            return (part == 0 ? manyRuns : allOrders) / Math.max(1, divisor);
        }

        /** Goes through all orders of the SIDES that are left; over: how many RUNS more than asked for there are. */
        private void placeNext(int left, int last, int over) {
            if (left <= 0) {
                allOrders++;
                manyRuns += over >= 0 ? 1 : 0;
                return;
            }
            for (int side = 0; side < SIDES; side++) {
                if (toPlace[side] > 0) {
                    toPlace[side]--;
                    placeNext(left - 1, side, side == last ? over : over + 1);
                    toPlace[side]++;
                }
            }
        }

        private static int commonDivisor(int a, int b) {
            // Euclid's steps on ints are fewer than 50.
            for (int i = 0; i < 50 && b != 0; i++) {
                int left = a % b;
                a = b;
                b = left;
            }
            return a;
        }
    }

    /** Two teams, and their SHOOT-OUT from the last kick back. */
    private static final class ShootOut {
        // What a place weighs in a row of five places that is told as one number.
        static final int[] TENS = {10000, 1000, 100, 10, 1};
        private static final int GOALS = ROW + 1, LEADS = 2 * ROW + 1;

        final Player[] members = new Player[2 * MEMBERS];
        // CHANCES of the team that goes first and of the other, by place, how often its team kicked, and its lead.
        private final int[][] chances = new int[2][ROW * ROW * LEADS];
        // By TURN and score: WIN of the team that goes first.
        final int[][] wins = new int[TURNS + 1][GOALS * GOALS];
        int bestWin = 0;
        int bestRow = 0;

        ShootOut() {
            for (int a = 0; a < GOALS; a++) {
                for (int b = 0; b < GOALS; b++) {
                    wins[TURNS][scoreIndex(a, b)] = a > b ? 1000000 : a == b ? 500000 : 0;
                }
            }
        }

        static int scoreIndex(int a, int b) {
            return a * GOALS + b;
        }

        private static int chanceIndex(int place, int kicked, int lead) {
            return (place * ROW + kicked) * LEADS + lead + ROW;
        }

        boolean isManned() {
            for (int i = 0; i < members.length; i++) {
                if (members[i] == null) {
                    return false;
                }
            }
            return true;
        }

        /** WINS of a team, if it goes first, of all TURNS and scores. */
        void playBack(Duel duel, int firstTeam) {
            for (int kicked = 0; kicked < ROW; kicked++) {
                fillChances(duel, 0, firstTeam, kicked, kicked);
                fillChances(duel, 1, 1 - firstTeam, kicked, kicked);
            }
            for (int turn = TURNS - 1; turn >= 0; turn--) {
                stepBack(turn, turn / 2);
            }
        }

        private void fillChances(Duel duel, int second, int team, int place, int kicked) {
            Player kicker = members[team * MEMBERS + place];
            Player keeper = members[(1 - team) * MEMBERS + KEEPER_PLACE];
            if (kicker == null || keeper == null) {
                return;
            }
            for (int lead = -kicked - second; lead <= kicked; lead++) {
                duel.setState(NEVER, NEVER, 2 * kicked + second, LEVEL + lead);
                duel.meet(kicker, keeper);
                chances[second][chanceIndex(place, kicked, lead)] = duel.millionths();
            }
        }

        /**
         * WINS before the kick of a TURN, by who from a place takes it, of those behind it.
         * Scores that are decided need no care: what is behind them is all won or all lost.
         */
        private void stepBack(int turn, int place) {
            int kicked = turn / 2;
            int second = turn % 2;
            int[] then = wins[turn + 1];
            for (int a = 0; a <= kicked + second; a++) {
                for (int b = 0; b <= kicked; b++) {
                    int lead = second == 0 ? a - b : b - a;
                    long chance = chances[second][chanceIndex(place, kicked, lead)];
                    long goal = then[second == 0 ? scoreIndex(a + 1, b) : scoreIndex(a, b + 1)];
                    long none = then[scoreIndex(a, b)];
                    wins[turn][scoreIndex(a, b)] = (int) ((chance * goal + (MILLION - chance) * none) / MILLION);
                }
            }
        }

        void seekOrder(Duel duel) {
            for (int kicked = 0; kicked < ROW; kicked++) {
                for (int place = 0; place < ROW; place++) {
                    fillChances(duel, 0, 0, place, kicked);
                }
                fillChances(duel, 1, 1, kicked, kicked);
            }
            bestWin = -1;
            bestRow = 0;
            placeKicker(ROW - 1, 0, 0);
        }

        /** Tries all who may kick at a time, the last time first, so that orders that end alike share their WINS. */
        private void placeKicker(int time, int placed, int row) {
            if (time < 0) {
                int win = wins[0][0];
                if (win > bestWin || win == bestWin && row < bestRow) {
                    bestWin = win;
                    bestRow = row;
                }
                return;
            }
            stepBack(2 * time + 1, time);
            for (int place = 0; place < ROW; place++) {
                if ((placed >> place & 1) == 0) {
                    stepBack(2 * time, place);
                    placeKicker(time - 1, placed | 1 << place, row + place * TENS[time]);
                }
            }
        }

        static int judged(long[] row, int size, int from) {
            if (from < 0 || from >= size || size > row.length) {
                return 1000;
            }
            long a = 0;
            long b = 0;
            for (int turn = 0; turn < TURNS; turn++) {
                if (turn >= size - from) {
                    return 1000 + turn;
                }
                long goal = row[from + turn];
                if (goal != 0 && goal != 1) {
                    return -10 - turn;
                }
                a += turn % 2 == 0 ? goal : 0;
                b += turn % 2 == 0 ? 0 : goal;
                if (a > b + ROW - (turn + 1) / 2) {
                    return 1;
                }
                if (b > a + ROW - 1 - turn / 2) {
                    return 2;
                }
            }
            return 3;
        }
    }
}
