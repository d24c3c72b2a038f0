import java.lang.reflect.Array;
import java.math.BigInteger;
import java.util.ArrayList;
import java.util.Arrays;
import java.util.HashMap;
import java.util.List;
import java.util.Map;

/**
 * The document once more, by the plainest means and by other ways than the class goes: texts stay texts, fractions
 * are BigIntegers, a shoot-out is played forward, orders are all tried, tapes are Java's own arrays.
 */
final class Model {
    static final int NONE = -1, BAD = -2, STATE = -3, FULL = -4, NOTHING = -11, CAST = -12, PLACE = -13, SIZE = -14;
    static final long NO = Long.MIN_VALUE;
    private static final int[] ABOVE = {-1, 0, 0, 0, 1, 2, 2};

    private static final class Man {
        int number, kind, v, rule;
    }

    private static final class Shot {
        final int side;
        final boolean goal;

        Shot(int side, boolean goal) {
            this.side = side;
            this.goal = goal;
        }
    }

    private int[][] table = {{50, 50, 50}, {50, 50, 50}, {50, 50, 50}};
    private String text = "";
    private final List<String> rules = new ArrayList<>();
    private final List<Man> men = new ArrayList<>();
    private List<Shot> shots = new ArrayList<>();
    private int[][] teams = {{-5, -5, -5, -5, -5, -5}, {-5, -5, -5, -5, -5, -5}};
    private int[][] imageTable;
    private List<Shot> imageShots;
    private int[][] imageTeams;
    private List<Integer> ran = new ArrayList<>();
    private final Object[] tapes = new Object[6];
    // What was worked out already, by the table and whatever else it hangs on; the model would be too slow without.
    private final Map<String, int[]> knownRests = new HashMap<>();
    private final Map<String, Long> knownChances = new HashMap<>();

    // ---- the table, rules, players

    int table(int kick, int keeper, int n) {
        if (!in(kick, 0, 2) || !in(keeper, 0, 2)) return NONE;
        if (!in(n, 0, 100)) return BAD;
        int was = table[kick][keeper];
        table[kick][keeper] = n;
        return was;
    }

    int told(int kick, int keeper) {
        return in(kick, 0, 2) && in(keeper, 0, 2) ? table[kick][keeper] : NONE;
    }

    int feed(int bytes, int n) {
        if (!in(n, 0, 4)) return BAD;
        if (text.length() + n > 100) return FULL;
        String hex = String.format("%08x", bytes);
        for (int i = 4 - n; i < 4; i++) text += (char) Integer.parseInt(hex.substring(2 * i, 2 * i + 2), 16);
        return text.length();
    }

    int rule() {
        if (rules.size() == 7) return FULL;
        String read = text;
        text = "";
        int fault = fault(read);
        if (fault >= 0) return -10 - fault;
        rules.add(read);
        return rules.size() - 1;
    }

    /** A machine that goes from byte to byte: where it is, what is open around it, how many clauses there are. */
    static int fault(String read) {
        String at = "word";
        String open = "";
        int clauses = 1;
        for (int i = 0; i < read.length(); i++) {
            char c = read.charAt(i);
            String next = "";
            boolean figure = c >= '0' && c <= '9';
            switch (at) {
                case "word": next = c == 'g' ? "g" : c == 'p' ? "p" : ""; break;
                case "g": next = c == 'o' ? "go" : ""; break;
                case "go": next = c == ' ' ? "side" : ""; break;
                case "side": next = c >= '0' && c <= '2' ? "sided" : ""; break;
                case "sided": next = c == ' ' ? "n" : ""; break;
                case "p": next = c == 'r' ? "pr" : ""; break;
                case "pr": next = c == 'e' ? "pre" : ""; break;
                case "pre": next = c == 's' ? "pres" : ""; break;
                case "pres": next = c == 's' ? "press" : ""; break;
                case "press": next = c == ' ' ? "n" : ""; break;
                case "n": next = figure ? "n1" : ""; break;
                case "n1": next = figure ? "n2" : c == ' ' ? "F" : ""; break;
                case "n2": next = c == ' ' ? "F" : ""; break;
                case "F":
                    if ((c == '!' || c == '(') && open.length() < 4) {
                        open += c;
                        next = "F";
                    } else {
                        next = "lotd".indexOf(c) >= 0 ? "sign" : "";
                    }
                    break;
                case "sign": next = "<=>".indexOf(c) >= 0 ? "number" : ""; break;
                case "number": next = figure ? "number1" : ""; break;
                default:
                    if (at.equals("number1") && figure) {
                        next = "behind";
                        break;
                    }
                    while (open.endsWith("!")) open = open.substring(0, open.length() - 1);
                    if (c == '&' || c == '|') {
                        next = "F";
                    } else if (c == ')' && open.endsWith("(")) {
                        open = open.substring(0, open.length() - 1);
                        next = "behind";
                    } else if (c == ';' && open.isEmpty() && clauses < 8) {
                        clauses++;
                        next = "word";
                    }
            }
            if (next.isEmpty()) return i;
            at = next;
        }
        boolean whole = (at.equals("number1") || at.equals("behind")) && open.indexOf('(') < 0;
        return whole ? -1 : read.length();
    }

    /** Whether E holds: cut at the last | that stands in no brackets, else at the last &. */
    private static boolean holds(String e, int[] state) {
        for (char cut : new char[] {'|', '&'}) {
            int open = 0;
            for (int i = e.length() - 1; i >= 0; i--) {
                char c = e.charAt(i);
                open += c == ')' ? 1 : c == '(' ? -1 : 0;
                if (open == 0 && c == cut) {
                    boolean left = holds(e.substring(0, i), state);
                    boolean right = holds(e.substring(i + 1), state);
                    return cut == '|' ? left || right : left && right;
                }
            }
        }
        if (e.charAt(0) == '!') return !holds(e.substring(1), state);
        if (e.charAt(0) == '(') return holds(e.substring(1, e.length() - 1), state);
        int value = state["lotd".indexOf(e.charAt(0))];
        int number = Integer.parseInt(e.substring(2));
        return e.charAt(1) == '<' ? value < number : e.charAt(1) == '=' ? value == number : value > number;
    }

    /** The n of all clauses that begin with a head and hold, together. */
    private int given(Man man, String head, int[] state) {
        int all = 0;
        for (String clause : rules.get(man.rule).split(";")) {
            if (clause.startsWith(head)) {
                String[] parts = clause.substring(head.length()).split(" ");
                if (holds(parts[1], state)) all += Integer.parseInt(parts[0]);
            }
        }
        return all;
    }

    int player(int kind, int v, int rule) {
        if (!in(kind, 0, 6) || !in(rule, 0, rules.size() - 1)) return NONE;
        if (!in(v, 0, 2)) return BAD;
        if (men.size() == 10) return FULL;
        men.add(man(men.size(), kind, v, rule));
        return men.size() - 1;
    }

    private static Man man(int number, int kind, int v, int rule) {
        Man man = new Man();
        man.number = number;
        man.kind = kind;
        man.v = v;
        man.rule = rule;
        return man;
    }

    int of(int player, int what) {
        if (!isMan(player) || !in(what, 0, 2)) return NONE;
        Man man = men.get(player);
        return what == 0 ? man.kind : what == 1 ? man.v : man.rule;
    }

    private static boolean in(int n, int low, int high) {
        return n >= low && n <= high;
    }

    private boolean isMan(int player) {
        return in(player, 0, men.size() - 1);
    }

    private static boolean isState(int l, int o, int t, int d) {
        return in(l, 0, 3) && in(o, 0, 3) && in(t, 0, 99) && in(d, 0, 20);
    }

    // ---- what neither would leave, weights, odds

    /** Twentieths of the three SIDES, and FLOOR or CEILING behind them. */
    private int[] restOf(int who) {
        return knownRests.computeIfAbsent(who + Arrays.deepToString(table), key -> seekRest(who));
    }

    private int[] seekRest(int who) {
        int[] best = null;
        for (int code = 0; code < 21 * 21 * 21; code++) {
            int[] row = {code / 441, code / 21 % 21, code % 21, 0};
            if (row[0] + row[1] + row[2] != 20) continue;
            int least = Integer.MAX_VALUE;
            int greatest = Integer.MIN_VALUE;
            for (int other = 0; other < 3; other++) {
                int chance = 0;
                for (int own = 0; own < 3; own++) {
                    chance += row[own] * (who == 0 ? table[own][other] : table[other][own]);
                }
                least = Math.min(least, chance);
                greatest = Math.max(greatest, chance);
            }
            row[3] = who == 0 ? least : greatest;
            if (best == null || (who == 0 ? row[3] > best[3] : row[3] < best[3])) best = row;
        }
        return best;
    }

    int rest(int who, int what) {
        return in(who, 0, 1) && in(what, 0, 3) ? restOf(who)[what] : NONE;
    }

    int gap() {
        return restOf(1)[3] - restOf(0)[3];
    }

    private static int[] seenBy(int who, int[] state) {
        return who == 0 ? state : new int[] {state[1], state[0], state[2], 20 - state[3]};
    }

    private int[] weights(Man kicker, Man keeper, int who, int[] state) {
        Man man = who == 0 ? kicker : keeper;
        Man other = who == 0 ? keeper : kicker;
        boolean knows = other.kind != 4 && other.kind != 5;
        int[] seen = seenBy(who, state);
        int[] byRule = new int[3];
        for (int side = 0; side < 3; side++) byRule[side] = given(man, "go " + side + " ", seen);
        int[] w = byRule;
        int[] mix = restOf(who);
        if (man.kind == 2 || man.kind == 5 || man.kind == 6) w = new int[] {mix[0], mix[1], mix[2]};
        if (man.kind == 1 || man.kind == 4) w[man.v] += 30;
        if (man.kind == 3 && seen[0] != 3) w[seen[0]] = 0;
        if (man.kind == 4 && knows) w[replyTo(1 - who, weights(kicker, keeper, 1 - who, state))] *= 3;
        if (man.kind == 5 && knows) {
            w = new int[3];
            w[replyTo(1 - who, weights(kicker, keeper, 1 - who, state))] = 1;
        }
        if (man.kind == 6) w[1] += 5 * man.v;
        for (int side = 0; side < 3; side++) if (w[side] > 99) w[side] = 99;
        if (w[0] == 0 && w[1] == 0 && w[2] == 0) w[1] = 1;
        return w;
    }

    /** The SIDE that is the REPLY to the WEIGHTS of the kicker (whose 0) or the keeper (1). */
    private int replyTo(int whose, int[] weights) {
        int[] chance = new int[3];
        for (int own = 0; own < 3; own++) {
            for (int other = 0; other < 3; other++) {
                chance[own] += weights[other] * (whose == 1 ? table[own][other] : table[other][own]);
            }
        }
        int best = 0;
        for (int own = 1; own < 3; own++) {
            if (whose == 1 ? chance[own] > chance[best] : chance[own] < chance[best]) best = own;
        }
        return best;
    }

    int weight(int kicker, int keeper, int who, int side, int l, int o, int t, int d) {
        if (!isMan(kicker) || !isMan(keeper) || !in(who, 0, 1) || !in(side, 0, 2)) return NONE;
        if (!isState(l, o, t, d)) return BAD;
        return weights(men.get(kicker), men.get(keeper), who, new int[] {l, o, t, d})[side];
    }

    int reply(int kicker, int keeper, int who, int l, int o, int t, int d) {
        if (!isMan(kicker) || !isMan(keeper) || !in(who, 0, 1)) return NONE;
        if (!isState(l, o, t, d)) return BAD;
        int[] others = weights(men.get(kicker), men.get(keeper), 1 - who, new int[] {l, o, t, d});
        return replyTo(1 - who, others);
    }

    private static BigInteger big(long n) {
        return BigInteger.valueOf(n);
    }

    private static BigInteger[] lowest(BigInteger above, BigInteger below) {
        BigInteger divisor = above.gcd(below);
        return new BigInteger[] {above.divide(divisor), below.divide(divisor)};
    }

    private static BigInteger[] sum(BigInteger[] x, BigInteger[] y) {
        return lowest(x[0].multiply(y[1]).add(y[0].multiply(x[1])), x[1].multiply(y[1]));
    }

    private static BigInteger[] times(BigInteger[] x, long above, long below) {
        return lowest(x[0].multiply(big(above)), x[1].multiply(big(below)));
    }

    private BigInteger[] leakOf(Man kicker, Man keeper, int n, int[] state) {
        int[] kicks = weights(kicker, keeper, 0, state);
        int[] keeps = weights(kicker, keeper, 1, state);
        int kicked = kicks[0] + kicks[1] + kicks[2];
        int kept = keeps[0] + keeps[1] + keeps[2];
        BigInteger[] all = {BigInteger.ZERO, BigInteger.ONE};
        for (int side = 0; side < 3; side++) {
            int[] only = new int[3];
            only[side] = 1;
            BigInteger[] seen = {big((long) n * table[side][replyTo(0, only)]), big(10000)};
            all = sum(all, times(seen, kicks[side], kicked));
            for (int dive = 0; dive < 3; dive++) {
                BigInteger[] unseen = {big((100L - n) * table[side][dive]), big(10000)};
                all = sum(all, times(times(unseen, kicks[side], kicked), keeps[dive], kept));
            }
        }
        return times(all, 100 - Math.min(99, given(kicker, "press ", state)), 100);
    }

    long odds(int kicker, int keeper, int what, int l, int o, int t, int d, int part) {
        if (!isMan(kicker) || !isMan(keeper) || !isState(l, o, t, d) || !in(what, 0, 1) || !in(part, 0, 1)) return NO;
        int[] state = {l, o, t, d};
        Man keeps = men.get(keeper);
        BigInteger[] odds = leakOf(men.get(kicker), keeps, 0, state);
        if (what == 1) {
            Man noted = man(keeps.number, 5, keeps.v, keeps.rule);
            odds = sum(leakOf(men.get(kicker), noted, 0, state), times(odds, -1, 1));
        }
        return odds[part].longValueExact();
    }

    long leak(int kicker, int keeper, int n, int t, int d, int part) {
        if (!isMan(kicker) || !isMan(keeper) || !in(n, 0, 100) || !isState(3, 3, t, d) || !in(part, 0, 1)) return NO;
        return leakOf(men.get(kicker), men.get(keeper), n, new int[] {3, 3, t, d})[part].longValueExact();
    }

    // ---- kicks that were

    int kick(int side, int keeper, boolean goal) {
        if (!in(side, 0, 2) || !in(keeper, 0, 2)) return NONE;
        if (shots.size() == 30) return FULL;
        shots.add(new Shot(side, goal));
        return shots.size();
    }

    int clear() {
        int were = shots.size();
        shots = new ArrayList<>();
        return were;
    }

    int does(int side) {
        if (!in(side, 0, 2)) return NONE;
        long kicks = shots.stream().filter(s -> s.side == side).count();
        long goals = shots.stream().filter(s -> s.side == side && s.goal).count();
        return kicks == 0 ? -5 : (int) (goals * 1000 / kicks);
    }

    private static int runs(List<Integer> sides) {
        int runs = sides.isEmpty() ? 0 : 1;
        for (int i = 1; i < sides.size(); i++) if (!sides.get(i).equals(sides.get(i - 1))) runs++;
        return runs;
    }

    private List<Integer> sides() {
        List<Integer> sides = new ArrayList<>();
        for (Shot shot : shots) sides.add(shot.side);
        return sides;
    }

    int shows(int what) {
        if (what == 1) return runs(sides());
        if (what != 0) return NONE;
        int apart = 0;
        for (int one = 0; one < 3; one++) {
            for (int two = 0; two < 3; two++) {
                if (does(one) != -5 && does(two) != -5) apart = Math.max(apart, does(one) - does(two));
            }
        }
        return apart;
    }

    int likely(int part) {
        if (!in(part, 0, 1)) return NONE;
        if (shots.size() > 9) return -9;
        List<Integer> sides = sides();
        int[] often = often(sides);
        int all = 0;
        int many = 0;
        for (int code = 0; code < Math.pow(3, sides.size()); code++) {
            List<Integer> order = new ArrayList<>();
            for (int i = 0, left = code; i < sides.size(); i++, left /= 3) order.add(left % 3);
            if (Arrays.equals(often(order), often)) {
                all++;
                if (runs(order) >= runs(sides)) many++;
            }
        }
        return lowest(big(many), big(all))[part].intValueExact();
    }

    private static int[] often(List<Integer> sides) {
        int[] often = new int[3];
        for (int side : sides) often[side]++;
        return often;
    }

    // ---- shoot-outs

    int team(int team, int i, int player) {
        if (!in(team, 0, 1) || !in(i, 0, 5) || !isMan(player)) return NONE;
        int was = teams[team][i];
        teams[team][i] = player;
        return was;
    }

    private boolean nobodySomewhere() {
        for (int[] team : teams) for (int member : team) if (member < 0) return true;
        return false;
    }

    /** WIN of who goes first at a score; it ends where the other one can't catch up. */
    private long winAt(int[] first, int[] second, int turn, int a, int b, Long[] kept) {
        int leftA = 5 - (turn + 1) / 2;
        int leftB = 5 - turn / 2;
        if (a > b + leftB) return 1000000;
        if (b > a + leftA) return 0;
        if (turn == 10) return 500000;
        int key = (turn * 6 + a) * 6 + b;
        if (kept[key] == null) {
            boolean firsts = turn % 2 == 0;
            int[] kicking = firsts ? first : second;
            int[] keeping = firsts ? second : first;
            int d = 10 + (firsts ? a - b : b - a);
            Man kicker = men.get(kicking[turn / 2]);
            long chance = chanceOf(kicker, men.get(keeping[5]), turn, d);
            long goal = winAt(first, second, turn + 1, firsts ? a + 1 : a, firsts ? b : b + 1, kept);
            long none = winAt(first, second, turn + 1, a, b, kept);
            kept[key] = (chance * goal + (1000000 - chance) * none) / 1000000;
        }
        return kept[key];
    }

    private long chanceOf(Man kicker, Man keeper, int turn, int d) {
        String key = kicker.number + " " + keeper.number + " " + turn + " " + d + Arrays.deepToString(table);
        return knownChances.computeIfAbsent(key, k -> {
            BigInteger[] odds = leakOf(kicker, keeper, 0, new int[] {3, 3, turn, d});
            return odds[0].multiply(big(1000000)).divide(odds[1]).longValueExact();
        });
    }

    private int winOf(int[] first, int[] second, int turn, int a, int b) {
        return (int) winAt(first, second, turn, a, b, new Long[11 * 36]);
    }

    int win(int what) {
        if (!in(what, 0, 1)) return -1000001;
        if (nobodySomewhere()) return -1000002;
        int win = winOf(teams[0], teams[1], 0, 0, 0);
        return what == 0 ? win : win - (1000000 - winOf(teams[1], teams[0], 0, 0, 0));
    }

    int at(int turn, int a, int b) {
        if (!in(turn, 0, 10) || !in(a, 0, (turn + 1) / 2) || !in(b, 0, turn / 2)) return -1000001;
        return nobodySomewhere() ? -1000002 : winOf(teams[0], teams[1], turn, a, b);
    }

    int order(int i) {
        if (!in(i, -1, 4)) return -1000001;
        if (nobodySomewhere()) return -1000002;
        int best = -1;
        String bestOrder = "";
        for (int code = 0; code < 3125; code++) {
            String order = "" + code / 625 + code / 125 % 5 + code / 25 % 5 + code / 5 % 5 + code % 5;
            if (order.chars().distinct().count() < 5) continue;
            int[] row = teams[0].clone();
            for (int k = 0; k < 5; k++) row[k] = teams[0][order.charAt(k) - '0'];
            int win = winOf(row, teams[1], 0, 0, 0);
            if (win > best) {
                best = win;
                bestOrder = order;
            }
        }
        return i < 0 ? best : bestOrder.charAt(i) - '0';
    }

    // ---- judging, the image, acts, tapes

    int judge(int tape, int i) {
        if (!in(tape, 0, 5)) return NONE;
        if (tapes[tape] == null) return 1000;
        if (!(tapes[tape] instanceof byte[])) return CAST;
        byte[] row = (byte[]) tapes[tape];
        if (i < 0) return 1000;
        int[] goals = new int[2];
        int[] left = {5, 5};
        for (int looked = 0; ; looked++) {
            if (goals[0] > goals[1] + left[1]) return 1;
            if (goals[1] > goals[0] + left[0]) return 2;
            if (left[0] + left[1] == 0) return 3;
            if ((long) i + looked >= row.length) return 1000 + looked;
            if (!in(row[i + looked], 0, 1)) return -10 - looked;
            goals[looked % 2] += row[i + looked];
            left[looked % 2]--;
        }
    }

    int image() {
        imageTable = new int[][] {table[0].clone(), table[1].clone(), table[2].clone()};
        imageTeams = new int[][] {teams[0].clone(), teams[1].clone()};
        imageShots = new ArrayList<>(shots);
        return shots.size();
    }

    int undo() {
        if (imageTable == null) return STATE;
        table = new int[][] {imageTable[0].clone(), imageTable[1].clone(), imageTable[2].clone()};
        teams = new int[][] {imageTeams[0].clone(), imageTeams[1].clone()};
        shots = new ArrayList<>(imageShots);
        return shots.size();
    }

    /** The KIND, from one on upwards, that has a body for an act. */
    private static int bodied(int kind, int act) {
        String bodies = "0:012 1:1 2:0 3:2 4:01 5:2 6:10";
        for (String entry : bodies.split(" ")) {
            if (entry.startsWith(kind + ":") && entry.indexOf("" + act, 2) > 0) return kind;
        }
        return bodied(ABOVE[kind], act);
    }

    private int done(Man i, int fromKind, int act, int x) {
        int kind = bodied(fromKind, act);
        int up = ABOVE[kind];
        switch (kind * 10 + act) {
            case 0: ran.add(10); return x + i.number;
            case 1: ran.add(11); return done(i, i.kind, 0, x) - i.v;
            case 2: ran.add(12); return done(i, i.kind, 1, x) * 2;
            case 11: ran.add(20); return done(i, up, 1, x) ^ 6;
            case 20: ran.add(30); return done(i, up, 0, x * 3);
            case 32: ran.add(40); return done(i, up, 2, x) + done(i, i.kind, 1, 1);
            case 40: ran.add(50); return -done(i, up, 0, x);
            case 41: ran.add(51); return done(i, up, 1, x + 1);
            case 52: ran.add(60); return done(i, up, 2, x - i.number);
            case 61: ran.add(70); return done(i, up, 1, x) + done(i, up, 0, 2);
            case 60: ran.add(71); return done(i, up, 0, x) ^ i.v;
            default: throw new IllegalStateException("no body " + kind + " " + act);
        }
    }

    int act(int player, int act, int x) {
        ran = new ArrayList<>();
        return isMan(player) && in(act, 0, 2) ? done(men.get(player), men.get(player).kind, act, x) : 0;
    }

    int trace(int i) {
        return in(i, 0, Math.min(20, ran.size()) - 1) ? ran.get(i) : NONE;
    }

    int taken(int player, int k) {
        if (!in(k, 0, 6)) return BAD;
        if (!isMan(player)) return NOTHING;
        for (int kind = men.get(player).kind; kind >= 0; kind = ABOVE[kind]) {
            if (kind == k) return men.get(player).kind;
        }
        return CAST;
    }

    int count(int what) {
        switch (what) {
            case 0: return men.size();
            case 1: return rules.size();
            case 2: return shots.size();
            case 3: return text.length();
            case 4: return ran.size();
            default: return BAD;
        }
    }

    int tape(int tape, int sort, int n) {
        if (!in(tape, 0, 5)) return NONE;
        if (sort == -1) {
            tapes[tape] = null;
            return 1;
        }
        if (!in(sort, 0, 4) || n > 60) return BAD;
        if (n < 0) return SIZE;
        Class<?>[] of = {byte.class, short.class, int.class, long.class, boolean.class};
        tapes[tape] = Array.newInstance(of[sort], n);
        return 1;
    }

    int item(int tape, int i, long v) {
        if (!in(tape, 0, 5)) return NONE;
        Object row = tapes[tape];
        if (row == null) return NOTHING;
        if (!in(i, 0, Array.getLength(row) - 1)) return PLACE;
        if (row instanceof byte[]) ((byte[]) row)[i] = (byte) v;
        if (row instanceof short[]) ((short[]) row)[i] = (short) v;
        if (row instanceof int[]) ((int[]) row)[i] = (int) v;
        if (row instanceof long[]) ((long[]) row)[i] = v;
        if (row instanceof boolean[]) ((boolean[]) row)[i] = v != 0;
        return 1;
    }

    long read(int tape, int i) {
        if (!in(tape, 0, 5) || tapes[tape] == null || !in(i, 0, Array.getLength(tapes[tape]) - 1)) return NO;
        if (tapes[tape] instanceof boolean[]) return ((boolean[]) tapes[tape])[i] ? 1 : 0;
        return Array.getLong(tapes[tape], i);
    }

    int shift(int tape, int i, int other, int j, int n) {
        if (!in(tape, 0, 5) || !in(other, 0, 5)) return NONE;
        if (tapes[tape] == null || tapes[other] == null) return NOTHING;
        if (tapes[tape].getClass() != tapes[other].getClass()) return CAST;
        try {
            System.arraycopy(tapes[tape], i, tapes[other], j, n);
        } catch (IndexOutOfBoundsException e) {
            return PLACE;
        }
        return n;
    }
}
