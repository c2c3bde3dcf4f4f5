import java.util.NoSuchElementException;

/**
 * A city that is for one of two colours in the chariot races. The document's promises are its
 * face; README.md says how it is used. Every row is made in a constructor and used again, so that
 * no call makes an object but the exception that it throws.
 */
public final class BluesAndGreens {
    public static final int NONE = -1;

    private static final int BLUE = 0;
    private static final int GREEN = 1;
    private static final int MOST = 8;
    private static final int SETS = 1 << MOST;
    private static final int GATES = 9;
    private static final int GATE_SETS = 1 << GATES;
    private static final int MONEY_MOST = 9999;
    private static final int ANGER_MOST = 999;
    private static final int LIMIT_MOST = 99;
    private static final int PRICE_MOST = 99;
    private static final int BIDS = 10;
    private static final int KEPT = 2;

    private static final int TEXT_SIGNS = 80;
    private static final int DRIVER_SIGNS = 48;
    private static final int QUARTER_SIGNS = 76;
    private static final int QUARREL_SIGNS = 44;
    private static final int RULE_SIGNS = 40;
    private static final int SEASON_SIGNS = 60;
    private static final int END = -1;
    private static final String STANDARD_RULE = "s*10-c*15+(n+i)/3";

    private final Text text;
    private final Reader reader;
    private final RuleReader ruleReader;
    private final Row told;
    private final City city;
    private final State now;
    private final State before;
    private final State trial;
    private final Past past;
    private final int[] kept;
    private final boolean[] isKept;
    private final Rule theRule;
    private final Rule otherRule;
    private final Runs runs;
    private final Heard hearsay;
    private final int[] acts;

    public BluesAndGreens() {
        text = new Text();
        reader = new Reader(text);
        ruleReader = new RuleReader(reader);
        told = new Row();
        city = new City();
        now = new State();
        before = new State();
        trial = new State();
        past = new Past();
        kept = new int[KEPT * State.SIZE];
        isKept = new boolean[KEPT];
        theRule = new Rule();
        otherRule = new Rule();
        runs = new Runs();
        hearsay = new Heard();
        acts = new int[Reader.ACT_CELLS];
        readRule(theRule);
    }

    // ---- drivers, quarters, quarrels

    public int sign(int v) {
        return text.add(v);
    }

    public boolean end(int n) {
        return text.cut(n);
    }

    public int drivers() {
        int lines = reader.linesOf('d', DRIVER_SIGNS, city, city.drivers);
        text.cut(0);
        if (lines > 0) {
            now.enter(city, lines);
            city.drivers += lines;
            forgetStates();
        }
        return lines;
    }

    public int quarters() {
        int lines = reader.linesOf('q', QUARTER_SIGNS, city, city.quarters);
        text.cut(0);
        if (lines > 0) {
            city.quarters += lines;
            forgetStates();
        }
        return lines;
    }

    public int quarrels() {
        int lines = reader.linesOf('s', QUARREL_SIGNS, city, city.quarrels);
        text.cut(0);
        if (lines > 0) {
            city.quarrels += lines;
            forgetStates();
        }
        return lines;
    }

    public int rule() {
        int answer = readRule(otherRule);
        if (answer == 0) {
            theRule.copy(otherRule);
        }
        return answer;
    }

    public int driver(int driver, int what) throws NoSuchElementException {
        if (!city.hasDriver(driver)) {
            throw new NoSuchElementException();
        }
        switch (what) {
            case 0:
                return city.skill[driver];
            case 1:
                return city.price[driver];
            case 2:
                return now.clubOf(driver);
            case 3:
                return now.isCursed(driver) ? 1 : 0;
            case 4:
                return now.wonBy(driver);
            default:
                throw new NoSuchElementException();
        }
    }

    public int strength(int driver) throws NoSuchElementException {
        if (!city.hasDriver(driver)) {
            throw new NoSuchElementException();
        }
        return theRule.strengthOf(city, now, driver);
    }

    public int quarter(int quarter, int what) throws NoSuchElementException {
        if (quarter < 0 || quarter >= city.quarters) {
            throw new NoSuchElementException();
        }
        switch (what) {
            case 0:
                return city.crowd[quarter];
            case 1:
                return city.colour[quarter];
            case 2:
                return city.need[quarter];
            case 3:
                return city.gatesOf[quarter];
            default:
                throw new NoSuchElementException();
        }
    }

    public int quarrel(int quarrel, int what) throws NoSuchElementException {
        if (!city.hasQuarrel(quarrel) || what < 0 || what > 4) {
            throw new NoSuchElementException();
        }
        return what == 4 ? now.sideOf(quarrel) : city.adds[4 * quarrel + what];
    }

    public int club(int club, int what) throws NoSuchElementException {
        if (!isClub(club)) {
            throw new NoSuchElementException();
        }
        switch (what) {
            case 0:
                return now.moneyOf(club);
            case 1:
                return now.angerOf(club);
            case 2:
                return now.winsOf(club);
            case 3:
                return now.driversOf(city, club);
            case 4:
                return city.quartersOf(club);
            case 5:
                return city.crowdsOf(city.quartersOf(club));
            default:
                throw new NoSuchElementException();
        }
    }

    public int limit(int v) {
        if (v < 1 || v > LIMIT_MOST) {
            return NONE;
        }
        int was = city.limit;
        city.limit = v;
        return was;
    }

    public int sheet(int kind, int n, int f, int step) {
        if (kind < 0 || kind > 3 || n > MOST) {
            return NONE;
        }
        if (kind < 3 && n < 0) {
            return -2;
        }
        int entries = kind == 3 ? 0 : n;
        int sum = 0;
        for (int driver = 0; driver < city.drivers; driver++) {
            int price = driver < entries ? sheetPrice(kind, f + driver * step) : 0;
            city.price[driver] = price;
            sum += price;
        }
        return kind == 3 ? -3 : sum;
    }

    private static int sheetPrice(int kind, int entry) {
        int price = kind == 0 ? (byte) entry : kind == 1 ? (short) entry : entry;
        return Math.max(0, Math.min(PRICE_MOST, price));
    }

    // ---- the season

    public int race(int n) {
        if (city.drivers == 0) {
            return -2;
        }
        if (n < 0 || n > 60) {
            return NONE;
        }
        before.copy(now);
        int blue = runs.run(city, now, theRule, n);
        if (n > 0) {
            past.push(before);
        }
        told.tellTwo(runs.last, runs.joined);
        return blue;
    }

    public int buy(int club, int driver) {
        before.copy(now);
        return remembered(now.purchase(city, club, driver));
    }

    public int curse(int club, int driver) {
        before.copy(now);
        return remembered(now.hex(city, club, driver));
    }

    public int dig(int driver) {
        before.copy(now);
        return remembered(now.cleanse(city, driver));
    }

    public int grain(int club, int n) {
        before.copy(now);
        return remembered(now.feed(club, n));
    }

    public int show(int quarrel, int side) {
        before.copy(now);
        return remembered(now.takeSide(city, quarrel, side));
    }

    /** Keeps the state ahead of an act, if the act was done. */
    private int remembered(int answer) {
        if (answer >= 0) {
            past.push(before);
        }
        return answer;
    }

    public int season() {
        int count = reader.actsInto(acts);
        text.cut(0);
        if (count < 0) {
            return count;
        }
        before.copy(now);
        int done = 0;
        for (; done < count; done++) {
            if (doAct(done) < 0) {
                break;
            }
        }
        if (done > 0) {
            past.push(before);
        }
        told.tellTwo(done < count ? 1 : 0, now.areJoined(city) ? 1 : 0);
        return done;
    }

    private int doAct(int act) {
        int cell = 3 * act;
        if (cell < 0 || cell + 2 >= acts.length) {
            return NONE;
        }
        int first = acts[cell + 1];
        int second = acts[cell + 2];
        switch (acts[cell]) {
            case 'r':
                return city.drivers == 0 ? -2 : runs.run(city, now, theRule, first);
            case 'b':
                return now.purchase(city, first, second);
            case 'c':
                return now.hex(city, first, second);
            case 'd':
                return now.cleanse(city, first);
            case 'g':
                return now.feed(first, second);
            case 's':
                return now.takeSide(city, first, second);
            default:
                return NONE;
        }
    }

    public int undo() {
        return past.pop(now);
    }

    // ---- who wins

    public int order() {
        if (city.drivers == 0) {
            return -2;
        }
        told.clear();
        int placed = 0;
        for (int place = 0; place < city.drivers; place++) {
            int next = theRule.fastest(city, now, placed);
            told.add(next);
            placed |= 1 << next;
        }
        return theRule.fastest(city, now, 0);
    }

    public int ahead(int n) {
        if (city.drivers == 0) {
            return -2;
        }
        if (n < 0 || n > 99) {
            return NONE;
        }
        trial.copy(now);
        int blue = runs.run(city, trial, theRule, n);
        told.tellThree(runs.mostBlue, runs.mostGreen, runs.joined);
        return blue;
    }

    public int joins() {
        trial.copy(now);
        for (int races = 0; races <= 99; races++) {
            if (trial.areJoined(city)) {
                told.tellTwo(trial.angerOf(BLUE), trial.angerOf(GREEN));
                return races;
            }
            if (trial.runRace(city, theRule) == NONE) {
                break;
            }
        }
        return -2;
    }

    public int bribe(int club) {
        if (!isClub(club)) {
            return NONE;
        }
        if (wins(now, club)) {
            told.tellOne(NONE);
            return 0;
        }
        int best = NONE;
        for (int driver = 0; driver < city.drivers; driver++) {
            trial.copy(now);
            boolean cheaper = best == NONE || city.price[driver] < city.price[best];
            if (cheaper && trial.purchase(city, club, driver) >= 0 && wins(trial, club)) {
                best = driver;
            }
        }
        if (best == NONE) {
            return -2;
        }
        told.tellOne(best);
        return city.price[best];
    }

    private boolean wins(State state, int club) {
        int winner = theRule.fastest(city, state, 0);
        return winner != NONE && state.clubOf(winner) == club;
    }

    public int lead(int club) {
        if (!isClub(club)) {
            return NONE;
        }
        int best = NONE;
        int fewest = MOST + 1;
        for (int some = 0; some < SETS; some++) {
            int size = Integer.bitCount(some);
            if (size < fewest && hexAll(club, some) && wins(trial, club)) {
                best = some;
                fewest = size;
            }
        }
        if (best == NONE) {
            return -2;
        }
        told.tellOne(best);
        return fewest;
    }

    /** Has all of a set cursed in the trial; false if one of them can't be. */
    private boolean hexAll(int club, int some) {
        trial.copy(now);
        for (int driver = 0; driver < MOST; driver++) {
            if (has(some, driver) && trial.hex(city, club, driver) < 0) {
                return false;
            }
        }
        return true;
    }

    public int stable(int club) {
        if (!isClub(club)) {
            return NONE;
        }
        int theirs = now.driversOf(city, 1 - club);
        int best = 0;
        int most = 0;
        int cost = 0;
        for (int some = 1; some < SETS; some++) {
            if ((some & ~theirs) != 0) {
                continue;
            }
            int skill = city.skillsOf(some);
            int price = city.pricesOf(some);
            boolean better = skill > most || skill == most && price < cost;
            if (better && price <= now.moneyOf(club)) {
                best = some;
                most = skill;
                cost = price;
            }
        }
        told.tellTwo(best, cost);
        return most;
    }

    // ---- quarrels

    public int apart() {
        int open = now.openQuarrels(city);
        for (int sides = 0; sides < SETS; sides++) {
            if ((sides & ~open) == 0 && !joinBySides(sides)) {
                told.tellTwo(trial.angerOf(BLUE), trial.angerOf(GREEN));
                return sides;
            }
        }
        return -2;
    }

    /** Shows sides in all open QUARRELS, in the trial: whether they JOIN behind some of them. */
    private boolean joinBySides(int sides) {
        trial.copy(now);
        boolean joined = false;
        for (int quarrel = 0; quarrel < city.quarrels; quarrel++) {
            if (trial.takeSide(city, quarrel, (sides >> quarrel) & 1) == 1) {
                joined = true;
            }
        }
        return joined;
    }

    public int calm() {
        int open = now.openQuarrels(city);
        int best = NONE;
        int lesser = 0;
        int greater = 0;
        for (int sides = 0; sides < SETS; sides++) {
            if ((sides & ~open) != 0) {
                continue;
            }
            joinBySides(sides);
            int low = trial.lesserAnger();
            int high = trial.greaterAnger();
            if (best == NONE || low < lesser || low == lesser && high < greater) {
                best = sides;
                lesser = low;
                greater = high;
            }
        }
        told.tellTwo(lesser, greater);
        return best;
    }

    public int risky() {
        int open = now.openQuarrels(city);
        int ways = 0;
        for (int sides = 0; sides < SETS; sides++) {
            if ((sides & ~open) == 0 && joinBySides(sides)) {
                ways++;
            }
        }
        told.tellOne(open);
        return ways;
    }

    public int worst() {
        int open = now.openQuarrels(city);
        int worst = NONE;
        int most = 0;
        int side = 0;
        for (int quarrel = 0; quarrel < city.quarrels; quarrel++) {
            for (int shown = 0; shown < 2 && has(open, quarrel); shown++) {
                int more = addedBy(quarrel, shown);
                if (worst == NONE || more > most) {
                    worst = quarrel;
                    most = more;
                    side = shown;
                }
            }
        }
        if (worst == NONE) {
            return -2;
        }
        told.tellTwo(most, side);
        return worst;
    }

    private int addedBy(int quarrel, int side) {
        trial.copy(now);
        trial.takeSide(city, quarrel, side);
        return trial.lesserAnger() - now.lesserAnger();
    }

    // ---- riots

    public int riots(int some) {
        if (!city.areQuarters(some)) {
            return NONE;
        }
        int rioting = city.spread(some, 0);
        told.tellTwo(Integer.bitCount(rioting), city.crowdsOf(rioting));
        return rioting;
    }

    public int spark() {
        int all = city.allQuarters();
        int best = all;
        for (int some = 0; some < all; some++) {
            if (Integer.bitCount(some) < Integer.bitCount(best) && city.spread(some, 0) == all) {
                best = some;
            }
        }
        told.tellOne(best);
        return Integer.bitCount(best);
    }

    public int won(int some, int n) {
        if (!city.areQuarters(some) || n < 0 || n > MOST) {
            return NONE;
        }
        int all = city.allQuarters();
        int best = all;
        for (int calmed = 0; calmed < all; calmed++) {
            boolean fewer = Integer.bitCount(calmed) < Integer.bitCount(best);
            if (fewer && Integer.bitCount(city.spread(some, calmed)) <= n) {
                best = calmed;
            }
        }
        told.tellOne(best);
        return Integer.bitCount(best);
    }

    public int gates(int those, int k) {
        if (!city.areQuarters(those) || k < 0 || k > GATES) {
            return NONE;
        }
        int best = 0;
        int most = city.crowdsOf(city.keptIn(those, 0));
        for (int held = 1; held < GATE_SETS; held++) {
            int size = Integer.bitCount(held);
            if (size > k) {
                continue;
            }
            int crowd = city.crowdsOf(city.keptIn(those, held));
            if (crowd > most || crowd == most && size < Integer.bitCount(best)) {
                best = held;
                most = crowd;
            }
        }
        told.tellTwo(best, city.keptIn(those, best));
        return most;
    }

    public int common(int those) {
        if (!city.areQuarters(those)) {
            return NONE;
        }
        int all = GATE_SETS - 1;
        int any = 0;
        for (int quarter = 0; quarter < city.quarters; quarter++) {
            if (has(those, quarter)) {
                all &= city.gatesOf[quarter];
                any |= city.gatesOf[quarter];
            }
        }
        told.tellOne(any);
        return all;
    }

    // ---- lots

    public int lots(int n, int k, int p) {
        if (n < 1 || n > 12 || k < 0 || k > 12 || p < 0 || p > 10) {
            return NONE;
        }
        long upper = k > n ? 0 : ways(n, k) * power(p, k) * power(10 - p, n - k);
        tellFraction(upper, power(10, n));
        return 0;
    }

    public int bent(int q, int p, int n, int k) {
        if (q < 0 || q > 10 || p < 0 || p > 10 || n < 0 || n > 10 || k < 0 || k > n) {
            return NONE;
        }
        long upper = q * power(p, k) * power(10 - p, n - k);
        long lower = upper + (10 - q) * power(5, n);
        if (lower == 0) {
            return -2;
        }
        tellFraction(upper, lower);
        return 0;
    }

    private static long ways(int n, int k) {
        long ways = 1;
        for (int i = 1; i <= k; i++) {
            ways = ways * (n - k + i) / i;
        }
        return ways;
    }

    private static long power(int base, int times) {
        long product = 1;
        for (int i = 0; i < times; i++) {
            product *= base;
        }
        return product;
    }

    private void tellFraction(long upper, long lower) {
        long common = commonDivisor(upper, lower);
        if (common > 0) {
            told.tellTwo(upper / common, lower / common);
        }
    }

    private static long commonDivisor(long a, long b) {
        long more = a;
        long less = b;
        for (int i = 0; i < 200 && less != 0; i++) {
            long rest = more % less;
            more = less;
            less = rest;
        }
        return more;
    }

    // ---- which she was

    public int heard(int what, int v) {
        return hearsay.add(what, v);
    }

    public int forget() {
        return hearsay.clear();
    }

    public int fits() {
        int fitting = hearsay.fitting(city);
        told.tellTwo(Integer.bitCount(fitting), city.crowdsOf(fitting));
        return fitting;
    }

    public int ask() {
        int fitting = hearsay.fitting(city);
        if (fitting == 0) {
            return -2;
        }
        int best = 0;
        int fewest = MOST + 1;
        for (int gate = 0; gate < GATES; gate++) {
            int having = Integer.bitCount(city.quartersAt(gate) & fitting);
            int left = Math.max(having, Integer.bitCount(fitting) - having);
            if (left < fewest) {
                best = gate;
                fewest = left;
            }
        }
        told.tellOne(fewest);
        return best;
    }

    // ---- bids, rules, years

    public int rests(int v, int u) {
        if (v < 0 || v >= BIDS || u < 0 || u >= BIDS) {
            return NONE;
        }
        told.clear();
        int pairs = 0;
        for (int x = 0; x < BIDS; x++) {
            for (int y = 0; y < BIDS; y++) {
                if (!areAtRest(v, u, x, y)) {
                    continue;
                }
                pairs++;
                if (pairs == 1) {
                    told.tellTwo(x, y);
                }
            }
        }
        return pairs;
    }

    private static boolean areAtRest(int v, int u, int x, int y) {
        for (int bid = 0; bid < BIDS; bid++) {
            if (blueHas(v, bid, y) > blueHas(v, x, y) || greenHas(u, x, bid) > greenHas(u, x, y)) {
                return false;
            }
        }
        return true;
    }

    private static int blueHas(int worth, int x, int y) {
        return x >= y ? worth - y : 0;
    }

    private static int greenHas(int worth, int x, int y) {
        return y > x ? worth - x : 0;
    }

    public int law() {
        int answer = readRule(otherRule);
        if (answer != 0) {
            return answer - 9999;
        }
        if (city.drivers == 0) {
            return -20000;
        }
        trial.copy(now);
        int byOther = runs.run(city, trial, otherRule, 20);
        trial.copy(now);
        int byRule = runs.run(city, trial, theRule, 20);
        told.tellTwo(byOther, byRule);
        return byOther - byRule;
    }

    public int years(int seed, int n) {
        if (city.drivers == 0) {
            return -2;
        }
        if (n < 1 || n > 60) {
            return NONE;
        }
        trial.copy(now);
        runs.seed = seed;
        int blue = 0;
        int joined = 0;
        for (int i = 0; i < n; i++) {
            blue += drawnYear();
            joined += trial.areJoined(city) ? 1 : 0;
        }
        told.tellThree(trial.moneyOf(BLUE), trial.moneyOf(GREEN), joined);
        return blue;
    }

    /** One thing drawn, done in the trial: 1 if it is a RACE that blue wins, else 0. */
    private int drawnYear() {
        int kind = runs.draw(4);
        if (kind < 2) {
            return runs.run(city, trial, theRule, 1);
        }
        int club = runs.draw(2);
        if (kind == 2) {
            trial.purchase(city, club, runs.draw(city.drivers));
        } else {
            trial.feed(club, 5);
        }
        return 0;
    }

    // ---- kept

    public boolean keep(int i) {
        if (i < 0 || i >= KEPT) {
            return false;
        }
        now.write(kept, i);
        isKept[i] = true;
        return true;
    }

    public boolean again(int i) {
        if (i < 0 || i >= KEPT || !isKept[i]) {
            return false;
        }
        now.read(kept, i);
        past.clear();
        return true;
    }

    public int count(int what) {
        switch (what) {
            case 0:
                return city.drivers;
            case 1:
                return city.quarters;
            case 2:
                return city.quarrels;
            case 3:
                return city.limit;
            case 4:
                return now.racesRun();
            case 5:
                return now.areJoined(city) ? 1 : 0;
            case 6:
                return now.cursedOnes();
            case 7:
                return firstOnes(city.quarrels) & ~now.openQuarrels(city);
            case 8:
                return hearsay.size;
            case 9:
                return past.size;
            case 10:
                return told.size;
            case 11:
                return text.length;
            default:
                return NONE;
        }
    }

    public long row(int i) throws NoSuchElementException {
        if (i < 0 || i >= told.size) {
            throw new NoSuchElementException();
        }
        return told.numbers[i];
    }

    // ---- what several calls share

    /** Reads THE TEXT as a RULE; an empty one stands for the one that holds without any. */
    private int readRule(Rule into) {
        if (text.length == 0) {
            text.put(STANDARD_RULE);
        }
        int answer = ruleReader.readInto(into);
        text.cut(0);
        return answer;
    }

    /** States from ahead of new DRIVERS, QUARTERS or QUARRELS would not tell of these. */
    private void forgetStates() {
        past.clear();
        for (int i = 0; i < isKept.length; i++) {
            isKept[i] = false;
        }
    }

    private static boolean isClub(int club) {
        return club == BLUE || club == GREEN;
    }

    private static boolean has(int set, int one) {
        return ((set >> one) & 1) == 1;
    }

    private static int firstOnes(int n) {
        return (1 << n) - 1;
    }

    /** THE TEXT. */
    private static final class Text {
        final char[] signs;
        int length;

        Text() {
            signs = new char[TEXT_SIGNS];
        }

        int add(int v) {
            if (length + 4 > signs.length) {
                return NONE;
            }
            for (int shift = 24; shift >= 0; shift -= 8) {
                append((char) ((v >>> shift) & 255));
            }
            return length;
        }

        void put(String all) {
            length = 0;
            for (int i = 0; i < all.length(); i++) {
                append(all.charAt(i));
            }
        }

        private void append(char sign) {
            if (length >= 0 && length < signs.length) {
                signs[length] = sign;
                length++;
            }
        }

        boolean cut(int n) {
            if (n < 0 || n > length) {
                return false;
            }
            length = n;
            return true;
        }
    }

    /** The ROW. */
    private static final class Row {
        final long[] numbers;
        int size;

        Row() {
            numbers = new long[MOST];
        }

        void clear() {
            size = 0;
        }

        void add(long number) {
            if (size >= 0 && size < numbers.length) {
                numbers[size] = number;
                size++;
            }
        }

        void tellOne(long first) {
            clear();
            add(first);
        }

        void tellTwo(long first, long second) {
            tellOne(first);
            add(second);
        }

        void tellThree(long first, long second, long third) {
            tellTwo(first, second);
            add(third);
        }
    }

    /** What texts tell and no season changes. Cells behind a count tell of nothing yet. */
    private static final class City {
        int drivers;
        final int[] skill;
        final int[] price;
        final int[] firstClub;
        int quarters;
        final int[] crowd;
        final int[] colour;
        final int[] need;
        final int[] gatesOf;
        int quarrels;
        final int[] adds;
        int limit;

        City() {
            skill = new int[MOST];
            price = new int[MOST];
            firstClub = new int[MOST];
            crowd = new int[MOST];
            colour = new int[MOST];
            need = new int[MOST];
            gatesOf = new int[MOST];
            adds = new int[4 * MOST];
            limit = 20;
        }

        boolean hasDriver(int driver) {
            return driver >= 0 && driver < drivers;
        }

        boolean hasQuarrel(int quarrel) {
            return quarrel >= 0 && quarrel < quarrels;
        }

        int skillsOf(int some) {
            return sumOf(skill, drivers, some);
        }

        int pricesOf(int some) {
            return sumOf(price, drivers, some);
        }

        int crowdsOf(int some) {
            return sumOf(crowd, quarters, some);
        }

        private static int sumOf(int[] numbers, int count, int some) {
            int sum = 0;
            for (int i = 0; i < count && i < numbers.length; i++) {
                if (has(some, i)) {
                    sum += numbers[i];
                }
            }
            return sum;
        }

        int allQuarters() {
            return firstOnes(quarters);
        }

        boolean areQuarters(int some) {
            return (some & ~allQuarters()) == 0;
        }

        int quartersOf(int club) {
            int some = 0;
            for (int quarter = 0; quarter < quarters; quarter++) {
                if (colour[quarter] == club) {
                    some |= 1 << quarter;
                }
            }
            return some;
        }

        int quartersAt(int gate) {
            int some = 0;
            for (int quarter = 0; quarter < quarters; quarter++) {
                if (has(gatesOf[quarter], gate)) {
                    some |= 1 << quarter;
                }
            }
            return some;
        }

        int keptIn(int those, int held) {
            int some = 0;
            for (int quarter = 0; quarter < quarters; quarter++) {
                if (has(those, quarter) && (gatesOf[quarter] & ~held) == 0) {
                    some |= 1 << quarter;
                }
            }
            return some;
        }

        /** Who riots in the end. Each round but the last adds a QUARTER: there are few. */
        int spread(int some, int calmed) {
            int rioting = some & ~calmed;
            for (int round = 0; round <= MOST; round++) {
                int more = rioting | (drawnIn(Integer.bitCount(rioting)) & ~calmed);
                if (more == rioting) {
                    break;
                }
                rioting = more;
            }
            return rioting;
        }

        private int drawnIn(int others) {
            int some = 0;
            for (int quarter = 0; quarter < quarters; quarter++) {
                if (need[quarter] <= others) {
                    some |= 1 << quarter;
                }
            }
            return some;
        }
    }

    /** What a season changes, undo() undoes and keep() keeps: a row that is copied at once. */
    private static final class State {
        static final int MONEY = 0;
        static final int ANGER = 2;
        static final int WINS = 4;
        static final int RACE = 6;
        static final int CURSED = 7;
        static final int CLUB = 8;
        static final int WON = CLUB + MOST;
        static final int SIDE = WON + MOST;
        static final int SIZE = SIDE + MOST;

        final int[] cells;

        State() {
            cells = new int[SIZE];
            cells[MONEY + BLUE] = 100;
            cells[MONEY + GREEN] = 100;
            for (int quarrel = 0; quarrel < MOST; quarrel++) {
                cells[SIDE + quarrel] = NONE;
            }
        }

        void copy(State from) {
            System.arraycopy(from.cells, 0, cells, 0, SIZE);
        }

        void write(int[] rows, int i) {
            if (i >= 0 && (i + 1) * SIZE <= rows.length) {
                System.arraycopy(cells, 0, rows, i * SIZE, SIZE);
            }
        }

        void read(int[] rows, int i) {
            if (i >= 0 && (i + 1) * SIZE <= rows.length) {
                System.arraycopy(rows, i * SIZE, cells, 0, SIZE);
            }
        }

        /** New DRIVERS come in behind those of the city, for the CLUBS that were told. */
        void enter(City city, int lines) {
            for (int i = 0; i < lines && city.drivers + i < MOST; i++) {
                int driver = city.drivers + i;
                cells[CLUB + driver] = city.firstClub[driver];
            }
        }

        int moneyOf(int club) {
            return club == BLUE || club == GREEN ? cells[MONEY + club] : 0;
        }

        int angerOf(int club) {
            return club == BLUE || club == GREEN ? cells[ANGER + club] : 0;
        }

        int winsOf(int club) {
            return club == BLUE || club == GREEN ? cells[WINS + club] : 0;
        }

        int racesRun() {
            return cells[RACE];
        }

        int cursedOnes() {
            return cells[CURSED];
        }

        int clubOf(int driver) {
            return driver >= 0 && driver < MOST ? cells[CLUB + driver] : NONE;
        }

        boolean isCursed(int driver) {
            return has(cells[CURSED], driver);
        }

        int wonBy(int driver) {
            return driver >= 0 && driver < MOST ? cells[WON + driver] : 0;
        }

        int sideOf(int quarrel) {
            return quarrel >= 0 && quarrel < MOST ? cells[SIDE + quarrel] : NONE;
        }

        int driversOf(City city, int club) {
            int some = 0;
            for (int driver = 0; driver < city.drivers; driver++) {
                if (clubOf(driver) == club) {
                    some |= 1 << driver;
                }
            }
            return some;
        }

        int openQuarrels(City city) {
            int some = 0;
            for (int quarrel = 0; quarrel < city.quarrels; quarrel++) {
                if (sideOf(quarrel) == NONE) {
                    some |= 1 << quarrel;
                }
            }
            return some;
        }

        int lesserAnger() {
            return Math.min(cells[ANGER + BLUE], cells[ANGER + GREEN]);
        }

        int greaterAnger() {
            return Math.max(cells[ANGER + BLUE], cells[ANGER + GREEN]);
        }

        boolean areJoined(City city) {
            return lesserAnger() >= city.limit;
        }

        private void addMoney(int club, int more) {
            cells[MONEY + club] = Math.min(MONEY_MOST, cells[MONEY + club] + more);
        }

        private void addAnger(int club, int more) {
            cells[ANGER + club] = Math.max(0, Math.min(ANGER_MOST, cells[ANGER + club] + more));
        }

        /** Runs the RACE that comes: the DRIVER who wins, NONE without DRIVERS. */
        int runRace(City city, Rule rule) {
            int winner = rule.fastest(city, this, 0);
            int club = clubOf(winner);
            if (!isClub(club)) {
                return NONE;
            }
            cells[WON + winner]++;
            cells[WINS + club]++;
            addMoney(club, 10);
            addAnger(1 - club, 3);
            addAnger(club, -1);
            cells[RACE]++;
            return winner;
        }

        int purchase(City city, int club, int driver) {
            if (!isClub(club) || !city.hasDriver(driver)) {
                return NONE;
            }
            if (clubOf(driver) == club) {
                return -2;
            }
            int price = city.price[driver];
            if (moneyOf(club) < price) {
                return -3;
            }
            addMoney(club, -price);
            addMoney(1 - club, price);
            cells[CLUB + driver] = club;
            return moneyOf(club);
        }

        int hex(City city, int club, int driver) {
            if (!isClub(club) || !city.hasDriver(driver)) {
                return NONE;
            }
            if (clubOf(driver) == club) {
                return -2;
            }
            if (isCursed(driver)) {
                return -3;
            }
            if (moneyOf(club) < 5) {
                return -4;
            }
            addMoney(club, -5);
            cells[CURSED] |= 1 << driver;
            return moneyOf(club);
        }

        int cleanse(City city, int driver) {
            if (!city.hasDriver(driver)) {
                return NONE;
            }
            if (!isCursed(driver)) {
                return -2;
            }
            int club = clubOf(driver);
            if (!isClub(club) || moneyOf(club) < 3) {
                return -3;
            }
            addMoney(club, -3);
            cells[CURSED] &= ~(1 << driver);
            return moneyOf(club);
        }

        int feed(int club, int n) {
            if (!isClub(club) || n < 1 || n > 99) {
                return NONE;
            }
            addAnger(club, -n);
            return angerOf(club);
        }

        int takeSide(City city, int quarrel, int side) {
            if (!city.hasQuarrel(quarrel) || side < 0 || side > 1) {
                return NONE;
            }
            if (sideOf(quarrel) != NONE) {
                return -2;
            }
            addAnger(BLUE, city.adds[4 * quarrel + side]);
            addAnger(GREEN, city.adds[4 * quarrel + 2 + side]);
            cells[SIDE + quarrel] = side;
            return areJoined(city) ? 1 : 0;
        }
    }

    /** The latest states that undo() can go back to: a ring, the oldest is written over. */
    private static final class Past {
        static final int DEPTH = 12;

        final int[] rows;
        int size;
        int next;

        Past() {
            rows = new int[DEPTH * State.SIZE];
        }

        void clear() {
            size = 0;
        }

        void push(State state) {
            state.write(rows, next);
            next = next + 1 < DEPTH ? next + 1 : 0;
            size = Math.min(DEPTH, size + 1);
        }

        int pop(State into) {
            if (size == 0) {
                return NONE;
            }
            next = next > 0 ? next - 1 : DEPTH - 1;
            into.read(rows, next);
            size--;
            return size;
        }
    }

    /** A RULE, its things ahead of the signs that join them, so that a stack works it out. */
    private static final class Rule {
        /** Codes below it are numbers; from it on come things, by their place among THINGS. */
        static final int THING = 1000;
        static final String THINGS = "sciwnoma";
        /** From it on come signs that join two things, by their numbers, and NEGATE. */
        static final int SIGN = 2000;
        /** A - ahead of a thing; no sign of a text has this number. */
        static final int NEGATE = 256;

        final int[] code;
        int size;
        final int[] things;
        final int[] stack;

        Rule() {
            code = new int[RULE_SIGNS];
            things = new int[THINGS.length()];
            stack = new int[RULE_SIGNS];
        }

        void clear() {
            size = 0;
        }

        void add(int one) {
            if (size >= 0 && size < code.length) {
                code[size] = one;
                size++;
            }
        }

        void copy(Rule from) {
            System.arraycopy(from.code, 0, code, 0, RULE_SIGNS);
            size = from.size;
        }

        /** The DRIVER with the most STRENGTH of those not in a set, of equal ones the first. */
        int fastest(City city, State state, int without) {
            int best = NONE;
            int most = 0;
            for (int driver = 0; driver < city.drivers; driver++) {
                if (((without >> driver) & 1) == 1) {
                    continue;
                }
                int strength = strengthOf(city, state, driver);
                if (best == NONE || strength > most) {
                    best = driver;
                    most = strength;
                }
            }
            return best;
        }

        int strengthOf(City city, State state, int driver) {
            if (driver < 0 || driver >= city.drivers) {
                return 0;
            }
            int club = state.clubOf(driver);
            things[0] = city.skill[driver];
            things[1] = (state.cursedOnes() >> driver) & 1;
            things[2] = driver;
            things[3] = state.wonBy(driver);
            things[4] = state.racesRun() % 8;
            things[5] = club;
            things[6] = state.moneyOf(club) / 10;
            things[7] = state.angerOf(club);
            int top = 0;
            for (int i = 0; i < size && i < code.length; i++) {
                int one = code[i];
                if (one < SIGN && top < stack.length) {
                    int thing = one - THING;
                    stack[top] = thing >= 0 && thing < things.length ? things[thing] : one;
                    top++;
                } else if (one == SIGN + NEGATE && top > 0) {
                    stack[top - 1] = -stack[top - 1];
                } else if (one >= SIGN && top > 1) {
                    top--;
                    stack[top - 1] = joinTwo(one - SIGN, stack[top - 1], stack[top]);
                }
            }
            return stack[0];
        }

        private static int joinTwo(int sign, int a, int b) {
            switch (sign) {
                case '<':
                    return a < b ? 1 : 0;
                case '>':
                    return a > b ? 1 : 0;
                case '=':
                    return a == b ? 1 : 0;
                case '+':
                    return a + b;
                case '-':
                    return a - b;
                case '*':
                    return a * b;
                default:
                    return b == 0 ? 0 : a / b;
            }
        }
    }

    /** Reads THE TEXT sign by sign, and keeps where the first one is that can't stand there. */
    private static final class Reader {
        /** An act has two signs or more, and three cells: its letter and two digits. */
        static final int ACT_CELLS = SEASON_SIGNS / 2 * 3;

        final Text text;
        int most;
        int at;
        int wrong;

        Reader(Text read) {
            text = read;
        }

        void open(int signs) {
            most = signs;
            at = 0;
            wrong = NONE;
        }

        /** The sign that comes; END behind the last that may be read, and once one was wrong. */
        int peek() {
            boolean ended = wrong != NONE || at >= most || at >= text.length;
            return !ended && at >= 0 && at < text.signs.length ? text.signs[at] : END;
        }

        void step() {
            at++;
        }

        /** Only the first place that is wrong counts. */
        void failAt(int place) {
            if (wrong == NONE) {
                wrong = place;
            }
        }

        /** What was read, if all of it could stand there and nothing is left; else -1 - p. */
        int close(int read) {
            if (at < text.length) {
                failAt(at);
            }
            return wrong == NONE ? read : -1 - wrong;
        }

        /** A sign from low to high; low, if another comes, which then is wrong. */
        int take(int low, int high) {
            int sign = peek();
            if (sign < low || sign > high) {
                failAt(at);
                return low;
            }
            step();
            return sign;
        }

        /** A number of at least one digit, and so many at most. */
        int number(int digits) {
            int number = take('0', '9') - '0';
            for (int i = 1; i < digits; i++) {
                int sign = peek();
                if (sign < '0' || sign > '9') {
                    break;
                }
                step();
                number = number * 10 + sign - '0';
            }
            return number;
        }

        private int clubLetter() {
            if (peek() == 'g') {
                step();
                return GREEN;
            }
            take('b', 'b');
            return BLUE;
        }

        /** LINES go into the cells behind those that are there; the caller counts them in. */
        int linesOf(char kind, int signs, City city, int there) {
            open(signs);
            int lines = 0;
            for (int cell = there; cell <= MOST && text.length > 0; cell++) {
                if (cell == MOST) {
                    failAt(at);
                    break;
                }
                oneLine(kind, city, cell);
                lines++;
                if (peek() != ';') {
                    break;
                }
                step();
            }
            return close(lines);
        }

        private void oneLine(char kind, City city, int cell) {
            if (cell < 0 || cell >= MOST) {
                return;
            }
            if (kind == 'd') {
                city.skill[cell] = take('1', '9') - '0';
                city.price[cell] = number(2);
                city.firstClub[cell] = clubLetter();
            } else if (kind == 'q') {
                city.crowd[cell] = crowdNumber();
                city.colour[cell] = clubLetter();
                city.need[cell] = take('0', '9') - '0';
                city.gatesOf[cell] = gateLetters();
            } else {
                for (int i = 0; i < 4; i++) {
                    city.adds[4 * cell + i] = take('0', '9') - '0';
                }
            }
        }

        private int crowdNumber() {
            int crowd = number(2);
            if (crowd == 0) {
                failAt(at - 1);
            }
            return crowd;
        }

        private int gateLetters() {
            int gates = 0;
            int least = 'a';
            for (int i = 0; i < GATES; i++) {
                int letter = peek();
                if (letter < least || letter > 'i') {
                    break;
                }
                step();
                gates |= 1 << (letter - 'a');
                least = letter + 1;
            }
            return gates;
        }

        /** ACTS go into cells, three for each: how many ACTS, or -1 - p. */
        int actsInto(int[] cells) {
            open(SEASON_SIGNS);
            int acts = 0;
            for (int cell = 0; cell + 2 < cells.length && peek() != END; cell += 3) {
                int letter = peek();
                cells[cell] = letter;
                cells[cell + 2] = 0;
                switch (letter) {
                    case 'r':
                    case 'd':
                        step();
                        cells[cell + 1] = take('0', '9') - '0';
                        break;
                    case 'b':
                    case 'c':
                    case 'g':
                        step();
                        cells[cell + 1] = take('0', '1') - '0';
                        cells[cell + 2] = take('0', '9') - '0';
                        break;
                    case 's':
                        step();
                        cells[cell + 1] = take('0', '9') - '0';
                        cells[cell + 2] = take('0', '1') - '0';
                        break;
                    default:
                        failAt(at);
                        break;
                }
                acts++;
            }
            return close(acts);
        }
    }

    /** Reads THE TEXT as a RULE: a sign waits till one comes that binds no more than it. */
    private static final class RuleReader {
        static final int DEEPEST = 4;

        final Reader reader;
        final int[] waiting;
        int size;
        int depth;
        /** Bits: how deep in ( ) a < > = stands already, so that no other may. */
        int compared;

        RuleReader(Reader signs) {
            reader = signs;
            waiting = new int[RULE_SIGNS];
        }

        /** 0, or -1 - p; then the RULE is of no use. */
        int readInto(Rule into) {
            into.clear();
            reader.open(RULE_SIGNS);
            size = 0;
            depth = 0;
            compared = 0;
            boolean wantsThing = true;
            for (int i = 0; i < RULE_SIGNS && reader.peek() != END; i++) {
                wantsThing = wantsThing ? startThing(into) : goOn(into);
            }
            if (wantsThing || depth > 0) {
                reader.failAt(reader.at);
            }
            settle(into, 1);
            return reader.close(0);
        }

        /** Reads a thing, or a sign ahead of one: whether a thing is still to come. */
        private boolean startThing(Rule into) {
            int sign = reader.peek();
            int which = sign == END ? NONE : Rule.THINGS.indexOf((char) sign);
            if (sign == '-') {
                hold(Rule.NEGATE);
                return true;
            }
            if (sign == '(' && depth < DEEPEST) {
                hold('(');
                depth++;
                compared &= ~(1 << depth);
                return true;
            }
            if (which >= 0) {
                reader.step();
                into.add(Rule.THING + which);
                return false;
            }
            into.add(reader.number(3));
            return false;
        }

        /** Reads what may stand behind a thing: whether a thing must come now. */
        private boolean goOn(Rule into) {
            int sign = reader.peek();
            int binding = bindingOf(sign);
            if (sign == ')' && depth > 0) {
                reader.step();
                settle(into, 1);
                size = Math.max(0, size - 1);
                depth--;
                return false;
            }
            boolean second = binding == 1 && ((compared >> depth) & 1) == 1;
            if (binding == 0 || second) {
                reader.failAt(reader.at);
                return false;
            }
            if (binding == 1) {
                compared |= 1 << depth;
            }
            settle(into, binding);
            hold(sign);
            return true;
        }

        private void hold(int sign) {
            reader.step();
            if (size >= 0 && size < waiting.length) {
                waiting[size] = sign;
                size++;
            }
        }

        /** Signs that wait and bind as much, or more, come behind their things; ( holds them up. */
        private void settle(Rule into, int binding) {
            for (int i = size - 1; i >= 0 && i < waiting.length; i--) {
                if (bindingOf(waiting[i]) < binding) {
                    break;
                }
                into.add(Rule.SIGN + waiting[i]);
                size = i;
            }
        }

        private static int bindingOf(int sign) {
            switch (sign) {
                case '<':
                case '>':
                case '=':
                    return 1;
                case '+':
                case '-':
                    return 2;
                case '*':
                case '/':
                    return 3;
                case Rule.NEGATE:
                    return 4;
                default:
                    return 0;
            }
        }
    }

    /** RACES one behind another, with what is counted on the way; and what is drawn by a seed. */
    private static final class Runs {
        int last;
        int joined;
        int mostBlue;
        int mostGreen;
        int seed;

        /** How many of n RACES blue wins. */
        int run(City city, State state, Rule rule, int n) {
            last = NONE;
            joined = 0;
            mostBlue = 0;
            mostGreen = 0;
            int blue = 0;
            int blueInRow = 0;
            int greenInRow = 0;
            for (int i = 0; i < n; i++) {
                last = state.runRace(city, rule);
                boolean isBlue = state.clubOf(last) == BLUE;
                blue += isBlue ? 1 : 0;
                blueInRow = isBlue ? blueInRow + 1 : 0;
                greenInRow = isBlue ? 0 : greenInRow + 1;
                mostBlue = Math.max(mostBlue, blueInRow);
                mostGreen = Math.max(mostGreen, greenInRow);
                joined += state.areJoined(city) ? 1 : 0;
            }
            return blue;
        }

        /** A DRAW of n. */
        int draw(int n) {
            seed = seed * 1103515245 + 12345;
            return n > 0 ? (seed >>> 16) % n : 0;
        }
    }

    /** What was heard of the QUARTER she came from. */
    private static final class Heard {
        static final int AT_MOST = 12;

        final int[] whats;
        final int[] values;
        int size;

        Heard() {
            whats = new int[AT_MOST];
            values = new int[AT_MOST];
        }

        int add(int what, int v) {
            if (size >= AT_MOST || v < 0 || v > mostOf(what)) {
                return NONE;
            }
            whats[size] = what;
            values[size] = v;
            size++;
            return size;
        }

        private static int mostOf(int what) {
            switch (what) {
                case 0:
                    return 1;
                case 1:
                    return 99;
                case 2:
                    return 9;
                case 3:
                case 4:
                    return GATES - 1;
                default:
                    return NONE;
            }
        }

        int clear() {
            int was = size;
            size = 0;
            return was;
        }

        int fitting(City city) {
            int some = 0;
            for (int quarter = 0; quarter < city.quarters; quarter++) {
                if (fitsAll(city, quarter)) {
                    some |= 1 << quarter;
                }
            }
            return some;
        }

        private boolean fitsAll(City city, int quarter) {
            for (int i = 0; i < size; i++) {
                if (!fitsOne(city, quarter, whats[i], values[i])) {
                    return false;
                }
            }
            return true;
        }

        private static boolean fitsOne(City city, int quarter, int what, int v) {
            switch (what) {
                case 0:
                    return (city.colour[quarter] == BLUE) == (v == 1);
                case 1:
                    return city.crowd[quarter] >= v;
                case 2:
                    return city.need[quarter] <= v;
                case 3:
                    return has(city.gatesOf[quarter], v);
                default:
                    return !has(city.gatesOf[quarter], v);
            }
        }
    }
}
