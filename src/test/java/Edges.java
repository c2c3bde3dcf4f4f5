import java.util.NoSuchElementException;
import java.util.function.Supplier;
import java.util.function.ToLongFunction;

/**
 * What the tests of edges share. An edge is a sentence of the document that names a boundary: it has
 * a test of its own, with the last value that is allowed, the first that isn't, and what the object
 * answers afterwards. Promise 0 stands for the document's terms.
 */
abstract class Edges {
    static final int NONE = BluesAndGreens.NONE;
    static final int MAX = Integer.MAX_VALUE;
    static final int MIN = Integer.MIN_VALUE;

    private static final boolean[] TESTED = new boolean[51];
    private static int promise;
    private static String sentence;
    private static int edges;
    private static int asked;
    private static int wrong;

    static void edge(int number, String words, Runnable test) {
        promise = number;
        sentence = words;
        TESTED[number] = true;
        edges++;
        try {
            test.run();
        } catch (RuntimeException e) {
            fail("threw " + e);
        }
    }

    private static void fail(String what) {
        wrong++;
        System.out.println("promise " + promise + ", \"" + sentence + "\": " + what);
    }

    /** Tells how it went, and that each of these promises has an edge that was tested. */
    static void finish(int first, int last) {
        for (int i = first; i <= last; i++) {
            if (!TESTED[i]) {
                wrong++;
                System.out.println("promise " + i + " has no edge that is tested");
            }
        }
        System.out.println(edges + " edges, " + asked + " answers asked for, " + wrong + " not as due");
        if (wrong != 0) {
            System.exit(1);
        }
    }

    static void due(String what, long got, long want) {
        asked++;
        if (got != want) {
            fail(what + " answered " + got + ", due is " + want);
        }
    }

    static void due(String what, boolean got, boolean want) {
        due(what, got ? 1 : 0, want ? 1 : 0);
    }

    static void row(String what, BluesAndGreens x, long... numbers) {
        due(what + ", numbers of the ROW", x.count(10), numbers.length);
        for (int i = 0; i < numbers.length && i < x.count(10); i++) {
            due(what + ", row(" + i + ")", x.row(i), numbers[i]);
        }
    }

    /** No such one: the call throws, and changes nothing. */
    static void throwing(String what, Supplier<BluesAndGreens> made, ToLongFunction<BluesAndGreens> call) {
        asked++;
        BluesAndGreens x = made.get();
        try {
            fail(what + " answered " + call.applyAsLong(x) + ", due is NoSuchElementException");
        } catch (NoSuchElementException e) {
            same(what, x, made.get());
        }
    }

    /** A call that answers below 0, or false (0): nothing changes, of all that can be asked. */
    static void refused(String what, Supplier<BluesAndGreens> made, ToLongFunction<BluesAndGreens> call, long answer) {
        BluesAndGreens x = made.get();
        due(what, call.applyAsLong(x), answer);
        same(what, x, made.get());
    }

    static void refused(String what, ToLongFunction<BluesAndGreens> call, long answer) {
        refused(what, Edges::rich, call, answer);
    }

    /** A text in which the sign at a place can't stand: nothing changes but THE TEXT, which is empty. */
    static void wrongAt(Supplier<BluesAndGreens> made, ToLongFunction<BluesAndGreens> reader, String text, int place) {
        BluesAndGreens x = made.get();
        tell(x, text);
        due("the text " + text, reader.applyAsLong(x), -1 - place);
        due("the text " + text + ", signs of THE TEXT", x.count(11), 0);
        BluesAndGreens twin = made.get();
        twin.end(0);
        same("the text " + text, x, twin);
    }

    /** Texts with the place at which each is wrong, in turn. */
    static void wrongAll(Supplier<BluesAndGreens> made, ToLongFunction<BluesAndGreens> reader, Object... textsAndPlaces) {
        for (int i = 0; i + 1 < textsAndPlaces.length; i += 2) {
            wrongAt(made, reader, (String) textsAndPlaces[i], (Integer) textsAndPlaces[i + 1]);
        }
    }

    static void same(String what, BluesAndGreens x, BluesAndGreens twin) {
        asked++;
        String got = seen(x);
        String want = seen(twin);
        if (!got.equals(want)) {
            fail(what + " changed\n  " + want + " to\n  " + got);
        }
    }

    /** All that an object answers; the object is of no use then. */
    static String seen(BluesAndGreens x) {
        StringBuilder b = new StringBuilder("counts");
        for (int i = 0; i < 12; i++) {
            b.append(' ').append(x.count(i));
        }
        b.append(", row");
        for (int i = 0; i < x.count(10); i++) {
            b.append(' ').append(x.row(i));
        }
        b.append(", drivers");
        for (int i = 0; i < 4 * x.count(0); i++) {
            b.append(' ').append(i % 4 == 3 ? x.strength(i / 4) : x.driver(i / 4, new int[] {0, 1, 3}[i % 4]));
        }
        b.append(", quarters");
        for (int i = 0; i < 4 * x.count(1); i++) {
            b.append(' ').append(x.quarter(i / 4, i % 4));
        }
        b.append(", quarrels");
        for (int i = 0; i < 4 * x.count(2); i++) {
            b.append(' ').append(x.quarrel(i / 4, i % 4));
        }
        b.append(", fits ").append(x.fits()).append(stateOf(x));
        for (int left = x.undo(); left >= 0; left = x.undo()) {
            b.append(", undone ").append(left).append(stateOf(x));
        }
        b.append(", kept ").append(x.again(0)).append(stateOf(x));
        b.append(", kept ").append(x.again(1)).append(stateOf(x));
        int told = x.drivers();
        b.append(", the text ").append(told);
        for (int i = 0; i < told; i++) {
            b.append(' ').append(x.driver(x.count(0) - 1 - i, 0)).append(' ').append(x.driver(x.count(0) - 1 - i, 1));
        }
        return b.toString();
    }

    /** What undo() and again() give back. */
    private static String stateOf(BluesAndGreens x) {
        StringBuilder b = new StringBuilder(":");
        for (int i = 0; i < 6; i++) {
            b.append(' ').append(x.club(i % 2, i / 2));
        }
        b.append(' ').append(x.club(0, 3)).append(' ').append(x.count(4)).append(' ').append(x.count(6));
        for (int i = 0; i < x.count(0); i++) {
            b.append(' ').append(x.driver(i, 4));
        }
        for (int i = 0; i < x.count(2); i++) {
            b.append(' ').append(x.quarrel(i, 4));
        }
        return b.toString();
    }

    // ---- objects

    static void tell(BluesAndGreens x, String text) {
        x.end(0);
        for (int i = 0; i < text.length(); i += 4) {
            int v = 0;
            for (int j = i; j < i + 4; j++) {
                v = v << 8 | (j < text.length() ? text.charAt(j) & 255 : 0);
            }
            x.sign(v);
        }
        x.end(text.length());
    }

    static int told(BluesAndGreens x, String text, ToLongFunction<BluesAndGreens> reader) {
        tell(x, text);
        return (int) reader.applyAsLong(x);
    }

    static int rule(BluesAndGreens x, String text) {
        return told(x, text, BluesAndGreens::rule);
    }

    static int season(BluesAndGreens x, String text) {
        return told(x, text, BluesAndGreens::season);
    }

    static int law(BluesAndGreens x, String text) {
        return told(x, text, BluesAndGreens::law);
    }

    static BluesAndGreens city(String drivers, String quarters, String quarrels) {
        BluesAndGreens x = new BluesAndGreens();
        told(x, drivers, BluesAndGreens::drivers);
        told(x, quarters, BluesAndGreens::quarters);
        told(x, quarrels, BluesAndGreens::quarrels);
        return x;
    }

    /** An object with something of all that a call could change: also THE TEXT, the ROW, what is kept. */
    static BluesAndGreens rich() {
        BluesAndGreens x = city("520b;330g;725g", "30b0ab;20g1bc;9b2c;50g3", "5163;0940");
        rule(x, "s*9-c*20+i");
        x.limit(7);
        x.keep(0);
        x.buy(0, 1);
        x.curse(1, 0);
        x.keep(1);
        x.race(2);
        x.show(1, 0);
        x.heard(3, 1);
        x.order();
        tell(x, "55b");
        return x;
    }

    /** An object with nothing told, but what can be without: THE TEXT, a ROW, what is kept and heard. */
    static BluesAndGreens poor() {
        BluesAndGreens x = new BluesAndGreens();
        x.grain(0, 1);
        x.keep(0);
        x.heard(0, 1);
        x.rests(3, 4);
        tell(x, "55b");
        return x;
    }

    static void races(BluesAndGreens x, int n) {
        for (int left = n; left > 0; left -= 60) {
            x.race(Math.min(60, left));
        }
    }

    static String times(String s, int n) {
        return s.repeat(n);
    }
}
