import java.math.BigInteger;
import java.util.Arrays;
import java.util.function.Supplier;

/** A sky under test, for tests that go by the sentences of the document: each wrong answer is told with its one. */
final class Sky {
    static final Class<?> ARGUMENT = IllegalArgumentException.class;
    static final Class<?> INDEX = IndexOutOfBoundsException.class;
    static final Class<?> STATE = IllegalStateException.class;
    static final int MIN = Integer.MIN_VALUE;
    static final int MAX = Integer.MAX_VALUE;
    /** What an object answers behind so many calls is free, so that no test may ask for more. */
    static final int CALLS = 512;

    private static String sentence = "";
    private static int sentences = 0;
    private static int wrong = 0;

    private final TowerDown tower = new TowerDown();
    private int calls = 0;

    // ---- sentences

    static void sentence(String text, Runnable test) {
        sentence = text;
        sentences++;
        test.run();
    }

    static void end() {
        System.out.println(wrong == 0 ? sentences + " sentences hold" : wrong + " answers are not as due");
        if (wrong != 0) {
            System.exit(1);
        }
    }

    static void compare(String call, Object want, Object got) {
        if (!want.equals(got)) {
            wrong++;
            System.out.println("\"" + sentence + "\": " + call + " answered " + got + ", due is " + want);
        }
    }

    // ---- skies to begin with

    /** So many stones by spells of 200, each with a weight of 1 and a strength of 60. */
    static Sky strong(int stones) {
        return new Sky().conjured(stones, 1, 60, 200);
    }

    /** Stone 0 by a spell, 1 and 2 from it, 3 from both, and 4, which has fallen; the loads are 18, 6, 7, 3. */
    static Sky small() {
        Sky x = new Sky().conjured(1, 5, 30, 60);
        x.call("hang", 4, 20, 0, -1);
        x.call("hang", 6, 20, 0, -1);
        x.call("hang", 3, 10, 1, 2);
        return x.conjured(1, 9, 10, 1);
    }

    /**
     * Stones 0 to 19 by spells, 20 to 38 each from two of these, one behind the other: if stone 0 lets go, each
     * of the next ones does so in a round of its own, but for the last one, 19.
     */
    static Sky dominoes() {
        Sky x = new Sky().conjured(20, 1, 14, 200);
        for (int i = 0; i < 19; i++) {
            x.call("hang", 10, 60, i, i + 1);
        }
        return x;
    }

    Sky conjured(int stones, int weight, int strength, int power) {
        for (int i = 0; i < stones; i++) {
            call("conjure", weight, strength, power);
        }
        return this;
    }

    Sky hung(int stones, int weight, int strength, int from, int other) {
        for (int i = 0; i < stones; i++) {
            call("hang", weight, strength, from, other);
        }
        return this;
    }

    Sky joined(int stairs, int a, int b) {
        for (int i = 0; i < stairs; i++) {
            call("stair", a, b);
        }
        return this;
    }

    // ---- calls

    /** What the call answers; the class of what it throws. */
    Object call(String name, int... a) {
        calls++;
        if (calls > CALLS) {
            compare("the test", "at most " + CALLS + " calls", calls + " calls");
        }
        try {
            return answer(name, a);
        } catch (RuntimeException e) {
            return e.getClass();
        }
    }

    private Object answer(String name, int[] a) {
        switch (name) {
            case "conjure": return tower.conjure(a[0], a[1], a[2]);
            case "hang": return tower.hang(a[0], a[1], a[2], a[3]);
            case "prop": return tower.prop(a[0], a[1]);
            case "renew": return tower.renew(a[0], a[1]);
            case "stair": return tower.stair(a[0], a[1]);
            case "swap": return tower.swap(a[0], a[1]);
            case "joins": return tower.joins(a[0], a[1]);
            case "steps": return tower.steps(a[0], a[1]);
            case "stone": return tower.stone(a[0], a[1]);
            case "first": return tower.first(a[0]);
            case "count": return tower.count(a[0]);
            case "pass": return tower.pass(a[0]);
            case "without": return tower.without(a[0]);
            case "lasts": return tower.lasts(a[0]);
            case "foresee": return tower.foresee(a[0], a[1]);
            case "advise": return tower.advise(a[0], a[1]);
            case "mean": return tower.mean();
            case "digest": return tower.digest();
            default: return "no call " + name;
        }
    }

    private static String text(String name, int[] a) {
        String list = Arrays.toString(a);
        return name + "(" + list.substring(1, list.length() - 1) + ")";
    }

    Sky due(Object want, String name, int... a) {
        compare(text(name, a), want, call(name, a));
        return this;
    }

    /** Throws exactly this, and changes nothing. */
    Sky refused(Class<?> want, String name, int... a) {
        Object before = call("digest");
        due(want, name, a);
        compare("digest() behind " + text(name, a), before, call("digest"));
        return this;
    }

    /** Answers this, and changes nothing. */
    Sky told(Object want, String name, int... a) {
        Object before = call("digest");
        due(want, name, a);
        compare("digest() behind " + text(name, a), before, call("digest"));
        return this;
    }

    /** What stone() tells of it, in its order. */
    Sky facts(int stone, int... want) {
        for (int what = 0; what < want.length; what++) {
            due(want[what], "stone", stone, what);
        }
        return this;
    }

    /** What count() tells, in its order. */
    Sky counts(int... want) {
        for (int what = 0; what < want.length; what++) {
            due(want[what], "count", what);
        }
        return this;
    }

    /** What joins() tells of it, in its order. */
    Sky ends(int stair, int a, int b, int gone) {
        return due(a, "joins", stair, 0).due(b, "joins", stair, 1).due(gone, "joins", stair, 2);
    }

    /** These stones hang, and no others do. */
    Sky hanging(int... stones) {
        int[] hangs = stones.clone();
        Arrays.sort(hangs);
        int hung = (Integer) call("count", 1);
        for (int i = 0; i < hung; i++) {
            due(Arrays.binarySearch(hangs, i) >= 0 ? 1 : 0, "stone", i, 2);
        }
        return due(hangs.length, "count", 2);
    }

    // ---- ranges

    /** The argument at this place is taken from least to most, and refused on either side. */
    static void range(Supplier<Sky> skies, Class<?> refusal, int at, int least, int most, String name, int... a) {
        for (int good : new int[] {least, most}) {
            int[] b = with(a, at, good);
            Object got = skies.get().call(name, b);
            compare(text(name, b), "an answer", got instanceof Class ? got : "an answer");
        }
        beside(skies, refusal, at, least, most, name, a);
    }

    static void beside(Supplier<Sky> skies, Class<?> refusal, int at, int least, int most, String name, int... a) {
        for (int bad : new int[] {least - 1, most + 1, MIN, MAX}) {
            skies.get().refused(refusal, name, with(a, at, bad));
        }
    }

    private static int[] with(int[] a, int at, int value) {
        int[] b = a.clone();
        b[at] = value;
        return b;
    }

    // ---- the checksum

    /** The checksum by numbers without a limit, cut to 64 bits at its end; a sky of its own is asked for each row. */
    static long checksum(Supplier<Sky> skies, int stones, int stairs) {
        BigInteger d = added(BigInteger.valueOf(971), skies.get(), 8, "count");
        for (int i = 0; i < stones; i++) {
            d = added(d, skies.get(), 10, "stone", i);
        }
        for (int i = 0; i < stairs; i++) {
            d = added(d, skies.get(), 3, "joins", i);
        }
        return d.longValue();
    }

    private static BigInteger added(BigInteger d, Sky x, int facts, String name, int... of) {
        BigInteger sum = d;
        for (int what = 0; what < facts; what++) {
            int[] a = Arrays.copyOf(of, of.length + 1);
            a[of.length] = what;
            sum = sum.multiply(BigInteger.valueOf(31)).add(BigInteger.valueOf((Integer) x.call(name, a)));
        }
        return sum;
    }
}
