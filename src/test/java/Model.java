import java.math.BigInteger;
import java.util.ArrayDeque;
import java.util.ArrayList;
import java.util.Arrays;
import java.util.Comparator;
import java.util.Deque;
import java.util.List;
import java.util.NoSuchElementException;
import java.util.function.IntPredicate;
import java.util.regex.Matcher;
import java.util.regex.Pattern;
import java.util.stream.Collectors;
import java.util.stream.IntStream;

/**
 * The document once more, written by other means than the class (patterns, lists, whole texts that
 * are worked out anew each time), so that both can be held against one another.
 */
final class Model {
    static final String STANDARD = "s*10-c*15+(n+i)/3";

    record Driver(int skill, int price, int club, boolean cursed, int won) { }
    record Quarter(int crowd, int club, int need, int gates) { }
    record Quarrel(int[] adds, int side) { }

    /** All that undo() and again() give back, and PRICES, which they leave as they are. */
    static final class Life {
        List<Driver> drivers = new ArrayList<>();
        List<Quarrel> quarrels = new ArrayList<>();
        int[] money = {100, 100};
        int[] anger = {0, 0};
        int[] wins = {0, 0};
        int race;

        Life copy() {
            Life l = new Life();
            l.drivers = new ArrayList<>(drivers);
            l.quarrels = new ArrayList<>(quarrels);
            l.money = money.clone();
            l.anger = anger.clone();
            l.wins = wins.clone();
            l.race = race;
            return l;
        }
    }

    private String text = "";
    private List<Long> row = new ArrayList<>();
    private Life life = new Life();
    private final List<Quarter> quarters = new ArrayList<>();
    private int limit = 20;
    private String rule = STANDARD;
    private final Deque<Life> past = new ArrayDeque<>();
    private final Life[] kept = new Life[2];
    private final List<int[]> heard = new ArrayList<>();

    // ---- texts

    public int sign(int v) {
        if (text.length() + 4 > 80) {
            return -1;
        }
        text += "" + (char) (v >>> 24) + (char) (v >> 16 & 255) + (char) (v >> 8 & 255) + (char) (v & 255);
        return text.length();
    }

    public boolean end(int n) {
        if (n < 0 || n > text.length()) {
            return false;
        }
        text = text.substring(0, n);
        return true;
    }

    private String read() {
        String t = text;
        text = "";
        return t;
    }

    /** Where a text can't go on: by which of its beginnings a pattern could still be met. */
    static int wrongAt(Pattern pattern, String t, int most) {
        String first = t.length() > most ? t.substring(0, most) : t;
        for (int i = 1; i <= first.length(); i++) {
            Matcher m = pattern.matcher(first.substring(0, i));
            if (!m.matches() && !m.hitEnd()) {
                return i - 1;
            }
        }
        if (t.length() > most) {
            return most;
        }
        return pattern.matcher(t).matches() ? -1 : t.length();
    }

    /** As wrongAt; a ; behind the last LINE for which there is room is fine, what comes then is not. */
    private static int wrongLine(String line, int room, String t, int most) {
        if (room == 0) {
            return 0;
        }
        Pattern closed = Pattern.compile(line + "(?:;" + line + "){0," + (room - 1) + "}");
        int wrong = wrongAt(closed, t, most);
        boolean full = wrong > 0 && wrong < most && wrong < t.length() && t.charAt(wrong) == ';'
            && closed.matcher(t.substring(0, wrong)).matches();
        return full ? wrong + 1 : wrong;
    }

    public int drivers() {
        String t = read();
        if (t.isEmpty()) {
            return 0;
        }
        int wrong = wrongLine("[1-9][0-9]{1,2}[bg]", 8 - life.drivers.size(), t, 48);
        if (wrong >= 0) {
            return -1 - wrong;
        }
        String[] told = t.split(";");
        for (String s : told) {
            int end = s.length() - 1;
            life.drivers.add(new Driver(s.charAt(0) - '0', Integer.parseInt(s.substring(1, end)),
                s.charAt(end) == 'b' ? 0 : 1, false, 0));
        }
        forgetAll();
        return told.length;
    }

    public int quarters() {
        String t = read();
        if (t.isEmpty()) {
            return 0;
        }
        int wrong = wrongLine("(?:0[1-9]|[1-9][0-9]?)[bg][0-9]a?b?c?d?e?f?g?h?i?", 8 - quarters.size(), t, 76);
        if (wrong >= 0) {
            // CROWD 0 is wrong at its last digit: a 0 behind which no other one can be read is wrong itself
            boolean first = wrong > 0 && t.charAt(wrong - 1) == '0' && (wrong == 1 || t.charAt(wrong - 2) == ';');
            boolean second = wrong < Math.min(76, t.length()) && t.charAt(wrong) == '0';
            return -1 - (first && !second ? wrong - 1 : wrong);
        }
        String[] told = t.split(";");
        for (String s : told) {
            int colour = Character.isDigit(s.charAt(1)) ? 2 : 1;
            int gates = 0;
            for (char c : s.substring(colour + 2).toCharArray()) {
                gates |= 1 << c - 'a';
            }
            quarters.add(new Quarter(Integer.parseInt(s.substring(0, colour)), s.charAt(colour) == 'b' ? 0 : 1,
                s.charAt(colour + 1) - '0', gates));
        }
        forgetAll();
        return told.length;
    }

    public int quarrels() {
        String t = read();
        if (t.isEmpty()) {
            return 0;
        }
        int wrong = wrongLine("[0-9]{4}", 8 - life.quarrels.size(), t, 44);
        if (wrong >= 0) {
            return -1 - wrong;
        }
        String[] told = t.split(";");
        for (String s : told) {
            life.quarrels.add(new Quarrel(s.chars().map(c -> c - '0').toArray(), -1));
        }
        forgetAll();
        return told.length;
    }

    private void forgetAll() {
        past.clear();
        Arrays.fill(kept, null);
    }

    // ---- rules

    private static final Pattern RULE = Pattern.compile(expression(4));

    private static String expression(int depth) {
        String thing = "[0-9]{1,3}|[sciwnoma]" + (depth == 0 ? "" : "|\\(" + expression(depth - 1) + "\\)");
        String sum = "-*(?:" + thing + ")(?:[-+*/]-*(?:" + thing + "))*";
        return sum + "(?:[<>=]" + sum + ")?";
    }

    public int rule() {
        String t = read();
        int wrong = t.isEmpty() ? -1 : wrongAt(RULE, t, 40);
        if (wrong >= 0) {
            return -1 - wrong;
        }
        rule = t.isEmpty() ? STANDARD : t;
        return 0;
    }

    /** The last place of one of these signs that joins two things and stands in no ( ). */
    private static int lastOf(String t, String signs) {
        int depth = 0;
        for (int i = t.length() - 1; i > 0; i--) {
            char c = t.charAt(i);
            depth += c == ')' ? 1 : c == '(' ? -1 : 0;
            boolean behindThing = t.charAt(i - 1) == ')' || Character.isLetterOrDigit(t.charAt(i - 1));
            if (depth == 0 && behindThing && signs.indexOf(c) >= 0) {
                return i;
            }
        }
        return -1;
    }

    static int value(String t, int[] things) {
        for (String signs : new String[] {"<>=", "+-", "*/"}) {
            int i = lastOf(t, signs);
            if (i < 0) {
                continue;
            }
            int a = value(t.substring(0, i), things);
            int b = value(t.substring(i + 1), things);
            return switch (t.charAt(i)) {
                case '<' -> a < b ? 1 : 0;
                case '>' -> a > b ? 1 : 0;
                case '=' -> a == b ? 1 : 0;
                case '+' -> a + b;
                case '-' -> a - b;
                case '*' -> a * b;
                default -> b == 0 ? 0 : a / b;
            };
        }
        char c = t.charAt(0);
        if (c == '-') {
            return -value(t.substring(1), things);
        }
        if (c == '(') {
            return value(t.substring(1, t.length() - 1), things);
        }
        return Character.isDigit(c) ? Integer.parseInt(t) : things["sciwnoma".indexOf(c)];
    }

    private static int strength(Life l, int d, String by) {
        Driver x = l.drivers.get(d);
        return value(by, new int[] {x.skill, x.cursed ? 1 : 0, d, x.won, l.race % 8, x.club,
            l.money[x.club] / 10, l.anger[x.club]});
    }

    private static List<Integer> order(Life l, String by) {
        return IntStream.range(0, l.drivers.size()).boxed()
            .sorted(Comparator.comparingInt((Integer d) -> strength(l, d, by)).reversed()
                .thenComparingInt(d -> d))
            .collect(Collectors.toList());
    }

    // ---- what is asked of them

    private static void need(boolean there) {
        if (!there) {
            throw new NoSuchElementException();
        }
    }

    public int driver(int d, int what) {
        need(d >= 0 && d < life.drivers.size() && what >= 0 && what <= 4);
        Driver x = life.drivers.get(d);
        return new int[] {x.skill, x.price, x.club, x.cursed ? 1 : 0, x.won}[what];
    }

    public int strength(int d) {
        need(d >= 0 && d < life.drivers.size());
        return strength(life, d, rule);
    }

    public int quarter(int q, int what) {
        need(q >= 0 && q < quarters.size() && what >= 0 && what <= 3);
        Quarter x = quarters.get(q);
        return new int[] {x.crowd, x.club, x.need, x.gates}[what];
    }

    public int quarrel(int q, int what) {
        need(q >= 0 && q < life.quarrels.size() && what >= 0 && what <= 4);
        Quarrel x = life.quarrels.get(q);
        return what == 4 ? x.side : x.adds[what];
    }

    public int club(int c, int what) {
        need((c == 0 || c == 1) && what >= 0 && what <= 5);
        int theirs = bits(life.drivers.size(), d -> life.drivers.get(d).club == c);
        int homes = bits(quarters.size(), q -> quarters.get(q).club == c);
        return new int[] {life.money[c], life.anger[c], life.wins[c], theirs, homes, crowds(homes)}[what];
    }

    private static int bits(int n, IntPredicate p) {
        return IntStream.range(0, n).filter(p).map(i -> 1 << i).sum();
    }

    private int crowds(int set) {
        return IntStream.range(0, quarters.size()).filter(q -> (set >> q & 1) == 1).map(q -> quarters.get(q).crowd).sum();
    }

    public int limit(int v) {
        if (v < 1 || v > 99) {
            return -1;
        }
        int was = limit;
        limit = v;
        return was;
    }

    public int sheet(int kind, int n, int f, int step) {
        if (kind < 0 || kind > 3 || n > 8) {
            return -1;
        }
        if (kind < 3 && n < 0) {
            return -2;
        }
        long[] entries = new long[kind == 3 ? 0 : n];
        int entry = f;
        for (int i = 0; i < entries.length; i++, entry += step) {
            entries[i] = kind == 0 ? (byte) entry : kind == 1 ? (short) entry : entry;
        }
        int sum = 0;
        for (int i = 0; i < life.drivers.size(); i++) {
            int price = i < entries.length ? (int) Math.max(0, Math.min(99, entries[i])) : 0;
            Driver x = life.drivers.get(i);
            life.drivers.set(i, new Driver(x.skill, price, x.club, x.cursed, x.won));
            sum += price;
        }
        return kind == 3 ? -3 : sum;
    }

    // ---- the season

    private boolean join(Life l) {
        return l.anger[0] >= limit && l.anger[1] >= limit;
    }

    private static int runRace(Life l, String by) {
        int w = order(l, by).get(0);
        Driver x = l.drivers.get(w);
        l.drivers.set(w, new Driver(x.skill, x.price, x.club, x.cursed, x.won + 1));
        l.wins[x.club]++;
        l.money[x.club] = Math.min(9999, l.money[x.club] + 10);
        l.anger[1 - x.club] = Math.min(999, l.anger[1 - x.club] + 3);
        l.anger[x.club] = Math.max(0, l.anger[x.club] - 1);
        l.race++;
        return w;
    }

    /** An act on a life: below 0 if it can't be done. */
    private int act(Life l, char what, int a, int b) {
        switch (what) {
            case 'r': {
                int blue = 0;
                if (l.drivers.isEmpty()) {
                    return -2;
                }
                for (int i = 0; i < a; i++) {
                    blue += l.drivers.get(runRace(l, rule)).club == 0 ? 1 : 0;
                }
                return blue;
            }
            case 'b':
            case 'c': {
                if (a < 0 || a > 1 || b < 0 || b >= l.drivers.size()) {
                    return -1;
                }
                Driver x = l.drivers.get(b);
                if (x.club == a) {
                    return -2;
                }
                if (what == 'c' && x.cursed) {
                    return -3;
                }
                int cost = what == 'b' ? x.price : 5;
                if (l.money[a] < cost) {
                    return what == 'b' ? -3 : -4;
                }
                l.money[a] -= cost;
                if (what == 'b') {
                    l.money[x.club] = Math.min(9999, l.money[x.club] + cost);
                }
                l.drivers.set(b, new Driver(x.skill, x.price, what == 'b' ? a : x.club, what == 'c' || x.cursed, x.won));
                return l.money[a];
            }
            case 'd': {
                if (a < 0 || a >= l.drivers.size()) {
                    return -1;
                }
                Driver x = l.drivers.get(a);
                if (!x.cursed || l.money[x.club] < 3) {
                    return x.cursed ? -3 : -2;
                }
                l.drivers.set(a, new Driver(x.skill, x.price, x.club, false, x.won));
                return l.money[x.club] -= 3;
            }
            case 'g':
                return a < 0 || a > 1 || b < 1 || b > 99 ? -1 : (l.anger[a] = Math.max(0, l.anger[a] - b));
            default: {
                if (a < 0 || a >= l.quarrels.size() || b < 0 || b > 1) {
                    return -1;
                }
                Quarrel x = l.quarrels.get(a);
                if (x.side >= 0) {
                    return -2;
                }
                l.anger[0] = Math.min(999, l.anger[0] + x.adds[b]);
                l.anger[1] = Math.min(999, l.anger[1] + x.adds[2 + b]);
                l.quarrels.set(a, new Quarrel(x.adds, b));
                return join(l) ? 1 : 0;
            }
        }
    }

    private int doNow(char what, int a, int b) {
        Life was = life.copy();
        int answer = act(life, what, a, b);
        if (answer >= 0) {
            remember(was);
        }
        return answer;
    }

    private void remember(Life was) {
        past.push(was);
        if (past.size() > 12) {
            past.removeLast();
        }
    }

    private void tell(long... numbers) {
        row = Arrays.stream(numbers).boxed().collect(Collectors.toList());
    }

    public int race(int n) {
        if (life.drivers.isEmpty()) {
            return -2;
        }
        if (n < 0 || n > 60) {
            return -1;
        }
        Life was = life.copy();
        int blue = 0;
        int joined = 0;
        int last = -1;
        for (int i = 0; i < n; i++) {
            last = runRace(life, rule);
            blue += life.drivers.get(last).club == 0 ? 1 : 0;
            joined += join(life) ? 1 : 0;
        }
        if (n > 0) {
            remember(was);
        }
        tell(last, joined);
        return blue;
    }

    public int buy(int c, int d) {
        return doNow('b', c, d);
    }

    public int curse(int c, int d) {
        return doNow('c', c, d);
    }

    public int dig(int d) {
        return doNow('d', d, 0);
    }

    public int grain(int c, int n) {
        return doNow('g', c, n);
    }

    public int show(int q, int side) {
        return doNow('s', q, side);
    }

    private static final String ACT = "(?:[rd][0-9]|[bcg][01][0-9]|s[0-9][01])";

    public int season() {
        String t = read();
        int wrong = wrongAt(Pattern.compile(ACT + "*"), t, 60);
        if (wrong >= 0) {
            return -1 - wrong;
        }
        Life was = life.copy();
        int done = 0;
        int failed = 0;
        Matcher m = Pattern.compile(ACT).matcher(t);
        while (failed == 0 && m.find()) {
            String a = m.group();
            int answer = act(life, a.charAt(0), a.charAt(1) - '0', a.length() > 2 ? a.charAt(2) - '0' : 0);
            done += answer >= 0 ? 1 : 0;
            failed = answer >= 0 ? 0 : 1;
        }
        if (done > 0) {
            remember(was);
        }
        tell(failed, join(life) ? 1 : 0);
        return done;
    }

    public int undo() {
        if (past.isEmpty()) {
            return -1;
        }
        giveBack(past.pop());
        return past.size();
    }

    private void giveBack(Life was) {
        Life l = was.copy();
        for (int i = 0; i < l.drivers.size(); i++) {
            Driver x = l.drivers.get(i);
            l.drivers.set(i, new Driver(x.skill, life.drivers.get(i).price, x.club, x.cursed, x.won));
        }
        life = l;
    }

    // ---- who wins

    public int order() {
        if (life.drivers.isEmpty()) {
            return -2;
        }
        List<Integer> all = order(life, rule);
        tell(all.stream().mapToLong(d -> d).toArray());
        return all.get(0);
    }

    public int ahead(int n) {
        if (life.drivers.isEmpty()) {
            return -2;
        }
        if (n < 0 || n > 99) {
            return -1;
        }
        Life l = life.copy();
        StringBuilder winners = new StringBuilder();
        int joined = 0;
        for (int i = 0; i < n; i++) {
            winners.append(l.drivers.get(runRace(l, rule)).club == 0 ? 'b' : 'g');
            joined += join(l) ? 1 : 0;
        }
        tell(longest(winners, "g"), longest(winners, "b"), joined);
        return (int) winners.chars().filter(c -> c == 'b').count();
    }

    private static int longest(StringBuilder winners, String others) {
        return Arrays.stream(winners.toString().split(others)).mapToInt(String::length).max().orElse(0);
    }

    public int joins() {
        Life l = life.copy();
        for (int i = 0; i < 100; i++) {
            if (join(l)) {
                tell(l.anger[0], l.anger[1]);
                return i;
            }
            if (l.drivers.isEmpty()) {
                return -2;
            }
            runRace(l, rule);
        }
        return -2;
    }

    private boolean wins(Life l, int c) {
        return !l.drivers.isEmpty() && l.drivers.get(order(l, rule).get(0)).club == c;
    }

    public int bribe(int c) {
        if (c < 0 || c > 1) {
            return -1;
        }
        if (wins(life, c)) {
            tell(-1);
            return 0;
        }
        int best = IntStream.range(0, life.drivers.size()).filter(d -> {
            Life l = life.copy();
            return act(l, 'b', c, d) >= 0 && wins(l, c);
        }).boxed().min(Comparator.comparingInt((Integer d) -> life.drivers.get(d).price).thenComparingInt(d -> d)).orElse(-1);
        if (best < 0) {
            return -2;
        }
        tell(best);
        return life.drivers.get(best).price;
    }

    private static final Comparator<Integer> FEWEST = Comparator.comparingInt((Integer s) -> Integer.bitCount(s)).thenComparingInt(s -> s);

    public int lead(int c) {
        if (c < 0 || c > 1) {
            return -1;
        }
        int best = IntStream.range(0, 1 << life.drivers.size()).filter(s -> {
            Life l = life.copy();
            return IntStream.range(0, 8).filter(d -> (s >> d & 1) == 1).allMatch(d -> act(l, 'c', c, d) >= 0) && wins(l, c);
        }).boxed().min(FEWEST).orElse(-1);
        if (best < 0) {
            return -2;
        }
        tell(best);
        return Integer.bitCount(best);
    }

    public int stable(int c) {
        if (c < 0 || c > 1) {
            return -1;
        }
        int[] best = IntStream.range(0, 1 << life.drivers.size())
            .filter(s -> IntStream.range(0, 8).noneMatch(d -> (s >> d & 1) == 1 && life.drivers.get(d).club == c))
            .mapToObj(s -> new int[] {s,
                IntStream.range(0, 8).filter(d -> (s >> d & 1) == 1).map(d -> life.drivers.get(d).skill).sum(),
                IntStream.range(0, 8).filter(d -> (s >> d & 1) == 1).map(d -> life.drivers.get(d).price).sum()})
            .filter(x -> x[2] <= life.money[c])
            .min(Comparator.comparingInt((int[] x) -> -x[1]).thenComparingInt(x -> x[2]).thenComparingInt(x -> x[0])).get();
        tell(best[0], best[2]);
        return best[1];
    }

    // ---- quarrels

    private int open() {
        return bits(life.quarrels.size(), q -> life.quarrels.get(q).side < 0);
    }

    /** All ways of sides: bits, whether they JOIN behind one, ANGER of both. */
    private List<int[]> ways() {
        List<int[]> all = new ArrayList<>();
        int open = open();
        for (int s = 0; s < 256; s++) {
            if ((s & ~open) != 0) {
                continue;
            }
            Life l = life.copy();
            int joined = 0;
            for (int q = 0; q < 8; q++) {
                if ((open >> q & 1) == 1) {
                    joined |= act(l, 's', q, s >> q & 1);
                }
            }
            all.add(new int[] {s, joined, l.anger[0], l.anger[1]});
        }
        return all;
    }

    public int apart() {
        for (int[] w : ways()) {
            if (w[1] == 0) {
                tell(w[2], w[3]);
                return w[0];
            }
        }
        return -2;
    }

    public int calm() {
        int[] w = ways().stream().min(Comparator.comparingInt((int[] x) -> Math.min(x[2], x[3]))
            .thenComparingInt(x -> Math.max(x[2], x[3])).thenComparingInt(x -> x[0])).get();
        tell(Math.min(w[2], w[3]), Math.max(w[2], w[3]));
        return w[0];
    }

    public int risky() {
        int count = (int) ways().stream().filter(w -> w[1] == 1).count();
        tell(open());
        return count;
    }

    public int worst() {
        List<int[]> all = new ArrayList<>();
        for (int q = 0; q < life.quarrels.size(); q++) {
            for (int side = 0; side < 2; side++) {
                Life l = life.copy();
                if (act(l, 's', q, side) >= 0) {
                    all.add(new int[] {q, side, Math.min(l.anger[0], l.anger[1]) - Math.min(life.anger[0], life.anger[1])});
                }
            }
        }
        if (all.isEmpty()) {
            return -2;
        }
        int[] w = all.stream().min(Comparator.comparingInt((int[] x) -> -x[2]).thenComparingInt(x -> x[0]).thenComparingInt(x -> x[1])).get();
        tell(w[2], w[1]);
        return w[0];
    }

    // ---- riots

    private int all() {
        return (1 << quarters.size()) - 1;
    }

    private int riot(int some, int calmed) {
        for (int q = 0; q < quarters.size(); q++) {
            int bit = 1 << q;
            int others = Integer.bitCount(some & ~calmed & ~bit);
            if ((some & bit) == 0 && (calmed & bit) == 0 && others >= quarters.get(q).need) {
                return riot(some | bit, calmed);
            }
        }
        return some & ~calmed;
    }

    public int riots(int some) {
        if (some < 0 || some > all()) {
            return -1;
        }
        int r = riot(some, 0);
        tell(Integer.bitCount(r), crowds(r));
        return r;
    }

    public int spark() {
        int best = IntStream.rangeClosed(0, all()).filter(s -> riot(s, 0) == all()).boxed().min(FEWEST).get();
        tell(best);
        return Integer.bitCount(best);
    }

    public int won(int some, int n) {
        if (some < 0 || some > all() || n < 0 || n > 8) {
            return -1;
        }
        int best = IntStream.rangeClosed(0, all()).filter(s -> Integer.bitCount(riot(some, s)) <= n).boxed().min(FEWEST).get();
        tell(best);
        return Integer.bitCount(best);
    }

    private int keptIn(int those, int held) {
        return bits(quarters.size(), q -> (those >> q & 1) == 1 && (quarters.get(q).gates | held) == held);
    }

    public int gates(int those, int k) {
        if (those < 0 || those > all() || k < 0 || k > 9) {
            return -1;
        }
        int best = IntStream.range(0, 512).filter(g -> Integer.bitCount(g) <= k).boxed()
            .min(Comparator.comparingInt((Integer g) -> -crowds(keptIn(those, g))).thenComparing(FEWEST)).get();
        tell(best, keptIn(those, best));
        return crowds(keptIn(those, best));
    }

    public int common(int those) {
        if (those < 0 || those > all()) {
            return -1;
        }
        tell(bits(9, g -> IntStream.range(0, quarters.size()).anyMatch(q -> (those >> q & 1) == 1 && (quarters.get(q).gates >> g & 1) == 1)));
        return bits(9, g -> IntStream.range(0, quarters.size()).allMatch(q -> (those >> q & 1) == 0 || (quarters.get(q).gates >> g & 1) == 1));
    }

    // ---- lots

    private void tellFraction(BigInteger upper, BigInteger lower) {
        BigInteger g = upper.gcd(lower);
        tell(upper.divide(g).longValueExact(), lower.divide(g).longValueExact());
    }

    private static BigInteger power(int b, int e) {
        return BigInteger.valueOf(b).pow(e);
    }

    /** How likely k of n lots are, as tenths multiplied: one lot more each time. */
    private static BigInteger likely(int n, int k, int p) {
        if (k < 0 || k > n) {
            return BigInteger.ZERO;
        }
        if (n == 0) {
            return BigInteger.ONE;
        }
        return likely(n - 1, k - 1, p).multiply(BigInteger.valueOf(p)).add(likely(n - 1, k, p).multiply(BigInteger.valueOf(10 - p)));
    }

    public int lots(int n, int k, int p) {
        if (n < 1 || n > 12 || k < 0 || k > 12 || p < 0 || p > 10) {
            return -1;
        }
        tellFraction(likely(n, k, p), power(10, n));
        return 0;
    }

    public int bent(int q, int p, int n, int k) {
        if (q < 0 || q > 10 || p < 0 || p > 10 || n < 0 || n > 10 || k < 0 || k > n) {
            return -1;
        }
        BigInteger bent = BigInteger.valueOf(q).multiply(likely(n, k, p));
        BigInteger fair = BigInteger.valueOf(10 - q).multiply(likely(n, k, 5));
        if (bent.add(fair).signum() == 0) {
            return -2;
        }
        tellFraction(bent, bent.add(fair));
        return 0;
    }

    // ---- which she was

    public int heard(int what, int v) {
        int[] most = {1, 99, 9, 8, 8};
        if (what < 0 || what > 4 || v < 0 || v > most[what] || heard.size() == 12) {
            return -1;
        }
        heard.add(new int[] {what, v});
        return heard.size();
    }

    public int forget() {
        int n = heard.size();
        heard.clear();
        return n;
    }

    private int fitting() {
        return bits(quarters.size(), i -> heard.stream().allMatch(h -> {
            Quarter q = quarters.get(i);
            return switch (h[0]) {
                case 0 -> q.club == 1 - h[1];
                case 1 -> q.crowd >= h[1];
                case 2 -> q.need <= h[1];
                case 3 -> (q.gates & 1 << h[1]) != 0;
                default -> (q.gates & 1 << h[1]) == 0;
            };
        }));
    }

    public int fits() {
        int f = fitting();
        tell(Integer.bitCount(f), crowds(f));
        return f;
    }

    public int ask() {
        int f = fitting();
        if (f == 0) {
            return -2;
        }
        int[] most = IntStream.range(0, 9).map(g -> {
            int had = bits(8, q -> (f >> q & 1) == 1 && (quarters.get(q).gates >> g & 1) == 1);
            return Math.max(Integer.bitCount(had), Integer.bitCount(f & ~had));
        }).toArray();
        int best = IntStream.range(0, 9).boxed().min(Comparator.comparingInt((Integer g) -> most[g]).thenComparingInt(g -> g)).get();
        tell(most[best]);
        return best;
    }

    // ---- bids, rules, years

    private static int[] has(int v, int u, int x, int y) {
        return x >= y ? new int[] {v - y, 0} : new int[] {0, u - x};
    }

    public int rests(int v, int u) {
        if (v < 0 || v > 9 || u < 0 || u > 9) {
            return -1;
        }
        List<int[]> all = new ArrayList<>();
        for (int i = 0; i < 100; i++) {
            int x = i / 10;
            int y = i % 10;
            boolean blueRests = IntStream.range(0, 10).allMatch(z -> has(v, u, z, y)[0] <= has(v, u, x, y)[0]);
            boolean greenRests = IntStream.range(0, 10).allMatch(z -> has(v, u, x, z)[1] <= has(v, u, x, y)[1]);
            if (blueRests && greenRests) {
                all.add(new int[] {x, y});
            }
        }
        tell(all.isEmpty() ? new long[0] : new long[] {all.get(0)[0], all.get(0)[1]});
        return all.size();
    }

    private int blueWins(String by, int n) {
        Life l = life.copy();
        int blue = 0;
        for (int i = 0; i < n; i++) {
            blue += l.drivers.get(runRace(l, by)).club == 0 ? 1 : 0;
        }
        return blue;
    }

    public int law() {
        String t = read();
        int wrong = t.isEmpty() ? -1 : wrongAt(RULE, t, 40);
        if (wrong >= 0) {
            return -10000 - wrong;
        }
        if (life.drivers.isEmpty()) {
            return -20000;
        }
        int by = blueWins(t.isEmpty() ? STANDARD : t, 20);
        int is = blueWins(rule, 20);
        tell(by, is);
        return by - is;
    }

    private int r;

    private int draw(int n) {
        r = r * 1103515245 + 12345;
        return (int) ((r & 0xffffffffL) / 65536 % n);
    }

    public int years(int seed, int n) {
        if (life.drivers.isEmpty()) {
            return -2;
        }
        if (n < 1 || n > 60) {
            return -1;
        }
        Life l = life.copy();
        r = seed;
        int blue = 0;
        int joined = 0;
        for (int i = 0; i < n; i++) {
            int what = draw(4);
            if (what <= 1) {
                blue += l.drivers.get(runRace(l, rule)).club == 0 ? 1 : 0;
            } else if (what == 2) {
                int c = draw(2);
                act(l, 'b', c, draw(l.drivers.size()));
            } else {
                act(l, 'g', draw(2), 5);
            }
            joined += join(l) ? 1 : 0;
        }
        tell(l.money[0], l.money[1], joined);
        return blue;
    }

    // ---- kept

    public boolean keep(int i) {
        if (i != 0 && i != 1) {
            return false;
        }
        kept[i] = life.copy();
        return true;
    }

    public boolean again(int i) {
        if (i != 0 && i != 1 || kept[i] == null) {
            return false;
        }
        giveBack(kept[i]);
        past.clear();
        return true;
    }

    public int count(int what) {
        if (what < 0 || what > 11) {
            return -1;
        }
        return new int[] {life.drivers.size(), quarters.size(), life.quarrels.size(), limit, life.race, join(life) ? 1 : 0,
            bits(life.drivers.size(), d -> life.drivers.get(d).cursed), (1 << life.quarrels.size()) - 1 & ~open(),
            heard.size(), past.size(), row.size(), text.length()}[what];
    }

    public long row(int i) {
        need(i >= 0 && i < row.size());
        return row.get(i);
    }
}
