import java.lang.reflect.InvocationTargetException;
import java.lang.reflect.Method;
import java.util.HashMap;
import java.util.Map;
import java.util.NoSuchElementException;
import java.util.Random;

/** Drawn runs of calls, on the class and on the model: every answer, and all that can be asked. */
public final class ModelTests {
    private static final int RUNS = 1500;
    private static final int CALLS = 200;
    private static int wrong;

    /** The calls with the ranges from which most of their arguments are drawn, low and high in turn. */
    private static final String[] CALLED = {
        "limit 1 30", "sheet 0 3 0 8 -20 120 -40 40", "race 0 6", "race 0 60", "buy 0 1 0 7", "buy 0 1 0 7",
        "curse 0 1 0 7", "curse 0 1 0 7", "dig 0 7", "grain 0 1 1 20", "show 0 7 0 1", "show 0 7 0 1", "undo",
        "undo", "order", "ahead 0 99", "joins", "bribe 0 1", "bribe 0 1", "lead 0 1", "lead 0 1", "stable 0 1",
        "apart", "calm", "risky", "worst", "riots 0 255", "riots 0 7", "spark", "won 0 255 0 8", "won 0 7 0 4",
        "gates 0 255 0 9", "gates 0 7 0 4", "common 0 255", "common 0 7", "lots 1 12 0 12 0 10",
        "bent 0 10 0 10 0 10 0 10", "heard 0 4 0 9", "heard 0 1 0 1", "heard 3 4 0 8", "forget", "fits", "ask",
        "rests 0 9 0 9", "years -99 9999 1 60", "keep 0 1", "again 0 1", "count 0 11", "row 0 8", "end 0 80",
        "driver 0 7 0 4", "strength 0 7", "quarter 0 7 0 3", "quarrel 0 7 0 4", "club 0 1 0 5", "sign 0 0",
    };

    private static final Map<String, Method> REAL = methodsOf(BluesAndGreens.class);
    private static final Map<String, Method> MODEL = methodsOf(Model.class);

    private static Map<String, Method> methodsOf(Class<?> type) {
        Map<String, Method> all = new HashMap<>();
        for (Method m : type.getDeclaredMethods()) {
            if (java.lang.reflect.Modifier.isPublic(m.getModifiers())) {
                m.setAccessible(true);
                all.put(m.getName(), m);
            }
        }
        return all;
    }

    private static Object answer(Map<String, Method> methods, Object on, String name, Object[] args) {
        try {
            return methods.get(name).invoke(on, args);
        } catch (InvocationTargetException e) {
            return e.getCause() instanceof NoSuchElementException ? "throws NoSuchElementException" : "throws " + e.getCause();
        } catch (IllegalAccessException e) {
            throw new IllegalStateException(e);
        }
    }

    private final BluesAndGreens real = new BluesAndGreens();
    private final Model model = new Model();
    private final Random random;
    private final long seed;
    private final StringBuilder log = new StringBuilder();
    private boolean failed;

    private ModelTests(long seed) {
        this.seed = seed;
        random = new Random(seed);
    }

    private void call(String name, Object... args) {
        if (failed) {
            return;
        }
        log.append(name).append(java.util.Arrays.toString(args)).append(' ');
        Object got = answer(REAL, real, name, args);
        Object due = answer(MODEL, model, name, args);
        if (!got.equals(due)) {
            failed = true;
            wrong++;
            System.out.println("run " + seed + ": answered " + got + ", due is " + due + " behind " + log);
        }
    }

    private void compareAll() {
        int length = log.length();
        for (int i = 0; i < 12; i++) {
            call("count", i);
        }
        for (int i = 0; i <= (Integer) answer(MODEL, model, "count", new Object[] {10}); i++) {
            call("row", i);
        }
        for (int i = 0; i < (Integer) answer(MODEL, model, "count", new Object[] {0}); i++) {
            call("strength", i);
            for (int what = 0; what < 5; what++) {
                call("driver", i, what);
            }
        }
        for (int i = 0; i < (Integer) answer(MODEL, model, "count", new Object[] {1}); i++) {
            for (int what = 0; what < 4; what++) {
                call("quarter", i, what);
            }
        }
        for (int i = 0; i < (Integer) answer(MODEL, model, "count", new Object[] {2}); i++) {
            for (int what = 0; what < 5; what++) {
                call("quarrel", i, what);
            }
        }
        for (int i = 0; i < 12; i++) {
            call("club", i / 6, i % 6);
        }
        log.setLength(failed ? log.length() : length);
    }

    private void drawnCall() {
        String[] words = CALLED[random.nextInt(CALLED.length)].split(" ");
        Object[] args = new Object[words.length / 2];
        boolean wild = random.nextInt(12) == 0;
        for (int i = 0; i < args.length; i++) {
            int low = Integer.parseInt(words[1 + 2 * i]);
            int high = Integer.parseInt(words[2 + 2 * i]);
            args[i] = wild && random.nextBoolean() ? wildNumber(low, high) : low + random.nextInt(high - low + 1);
        }
        call(words[0], args);
    }

    private int wildNumber(int low, int high) {
        int[] some = {low - 1, high + 1, low, high, -2, 100, 256, Integer.MIN_VALUE, Integer.MAX_VALUE, random.nextInt()};
        return some[random.nextInt(some.length)];
    }

    private void tell(String text) {
        call("end", 0);
        for (int i = 0; i < text.length(); i += 4) {
            int v = 0;
            for (int j = i; j < i + 4; j++) {
                v = v << 8 | (j < text.length() ? text.charAt(j) & 255 : random.nextInt(256));
            }
            call("sign", v);
        }
        call("end", text.length());
    }

    private void drawnText() {
        String reader = new String[] {"drivers", "quarters", "quarrels", "rule", "season", "season", "law", "law", "rule"}[random.nextInt(9)];
        String text = textFor(reader);
        if (random.nextInt(4) == 0) {
            text = bent(text);
        }
        if (text.length() > 80) {
            text = text.substring(0, 80);
        }
        tell(text);
        call(random.nextInt(25) == 0 ? "season" : reader);
    }

    private String bent(String text) {
        StringBuilder b = new StringBuilder(text);
        String signs = "0123456789;bgabcdefghirdsn()+-*/<>=~ " + (char) 0 + (char) 255 + (char) 127;
        for (int times = 1 + random.nextInt(2); times > 0; times--) {
            int at = random.nextInt(b.length() + 1);
            char sign = signs.charAt(random.nextInt(signs.length()));
            switch (random.nextInt(4)) {
                case 0 -> b.insert(at, sign);
                case 1 -> b.setLength(at);
                case 2 -> b.append(text);
                default -> {
                    if (at < b.length()) {
                        b.setCharAt(at, sign);
                    }
                }
            }
        }
        return b.toString();
    }

    private String textFor(String reader) {
        if (random.nextInt(20) == 0) {
            return "";
        }
        StringBuilder b = new StringBuilder();
        int lines = 1 + random.nextInt(random.nextInt(6) == 0 ? 9 : 4);
        switch (reader) {
            case "drivers" -> {
                for (int i = 0; i < lines; i++) {
                    b.append(i > 0 ? ";" : "").append(1 + random.nextInt(9)).append(random.nextInt(100)).append(random.nextBoolean() ? 'b' : 'g');
                }
            }
            case "quarters" -> {
                for (int i = 0; i < lines; i++) {
                    b.append(i > 0 ? ";" : "").append(random.nextInt(8) == 0 ? "0" : "").append(1 + random.nextInt(9));
                    b.append(random.nextBoolean() ? "b" : "g").append(random.nextInt(random.nextBoolean() ? 4 : 10));
                    int gates = random.nextInt(512) & random.nextInt(512);
                    for (int g = 0; g < 9; g++) {
                        b.append((gates >> g & 1) == 1 ? "" + (char) ('a' + g) : "");
                    }
                }
            }
            case "quarrels" -> {
                for (int i = 0; i < lines; i++) {
                    b.append(i > 0 ? ";" : "");
                    for (int j = 0; j < 4; j++) {
                        b.append(random.nextInt(10));
                    }
                }
            }
            case "season" -> {
                for (int i = random.nextInt(12); i > 0; i--) {
                    String act = new String[] {"r#", "r1", "b@#", "c@#", "d#", "g@#", "s#@"}[random.nextInt(7)];
                    b.append(act.replace("@", "" + random.nextInt(2)).replace("#", "" + random.nextInt(random.nextBoolean() ? 4 : 10)));
                }
            }
            default -> b.append(expression(random.nextInt(6)));
        }
        return b.toString();
    }

    private String expression(int size) {
        if (size <= 0) {
            return random.nextInt(3) == 0 ? "" + random.nextInt(random.nextBoolean() ? 10 : 1000) : "" + "sciwnoma".charAt(random.nextInt(8));
        }
        int left = random.nextInt(size);
        return switch (random.nextInt(8)) {
            case 0 -> "-" + expression(size - 1);
            case 1, 2 -> "(" + expression(size - 1) + ")";
            case 3 -> "(" + expression(left) + "<>=".charAt(random.nextInt(3)) + expression(size - 1 - left) + ")";
            default -> expression(left) + "+-*/".charAt(random.nextInt(4)) + expression(size - 1 - left);
        };
    }

    private void run() {
        if (random.nextInt(10) > 0) {
            for (String reader : new String[] {"drivers", "quarters", "quarrels"}) {
                tell(textFor(reader));
                call(reader);
            }
        }
        for (int i = 0; i < CALLS && !failed; i++) {
            if (random.nextInt(5) == 0) {
                drawnText();
            } else {
                drawnCall();
            }
            compareAll();
        }
    }

    public static void main(String[] args) {
        int runs = args.length > 0 ? Integer.parseInt(args[0]) : RUNS;
        for (int i = 0; i < runs && wrong < 5; i++) {
            new ModelTests(i).run();
        }
        System.out.println(wrong == 0 ? runs + " drawn runs are as the model's" : wrong + " runs are not as the model's");
        if (wrong != 0) {
            System.exit(1);
        }
    }
}
