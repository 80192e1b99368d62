/** For each promise: ordinary inputs, the edges that the document names, and wrong inputs. */
public final class PromiseTests {
    private static final Class<?> ARGUMENT = IllegalArgumentException.class;
    private static final Class<?> INDEX = IndexOutOfBoundsException.class;
    private static final Class<?> STATE = IllegalStateException.class;

    private interface Call {
        Object run();
    }

    private static int wrong = 0;

    private static void due(String call, Object want, Call made) {
        Object got;
        try {
            got = made.run();
        } catch (RuntimeException e) {
            got = e;
        }
        if (!want.equals(got)) {
            wrong++;
            System.out.println(call + " answered " + got + ", due is " + want);
        }
    }

    /** The call throws exactly this, and changes nothing. */
    private static void refused(String call, Class<?> want, TowerDown x, Call made) {
        long before = x.digest();
        Object got;
        try {
            got = made.run();
        } catch (RuntimeException e) {
            got = e.getClass();
        }
        if (!want.equals(got)) {
            wrong++;
            System.out.println(call + " answered " + got + ", due is " + want);
        }
        due(call + " changes nothing: digest", before, x::digest);
    }

    /** What stone() tells of a stone, in its order. */
    private static void facts(String when, TowerDown x, int stone, int... want) {
        for (int what = 0; what < want.length; what++) {
            int asked = what;
            due(when + ": stone(" + stone + ", " + what + ")", want[what], () -> x.stone(stone, asked));
        }
    }

    /** What count() tells, in its order. */
    private static void counts(String when, TowerDown x, int... want) {
        for (int what = 0; what < want.length; what++) {
            int asked = what;
            due(when + ": count(" + what + ")", want[what], () -> x.count(asked));
        }
    }

    private static TowerDown full() {
        TowerDown x = new TowerDown();
        for (int i = 0; i < 40; i++) {
            x.conjure(1, 60, 200);
        }
        return x;
    }

    /** Stone 0 by a spell, 1 and 2 from it, 3 from both, and 4, which has fallen. */
    private static TowerDown small() {
        TowerDown x = new TowerDown();
        x.conjure(5, 30, 60);
        x.hang(4, 20, 0, -1);
        x.hang(6, 20, 0, -1);
        x.hang(3, 10, 1, 2);
        x.conjure(9, 10, 1);
        return x;
    }

    private static void promise1() {
        TowerDown x = new TowerDown();
        counts("new", x, 0, 0, 0, 0, 0, 0, 0, 0);
        due("new: mean", 0.0, x::mean);
        long d = 971;
        for (int i = 0; i < 8; i++) {
            d *= 31;
        }
        due("new: digest", d, x::digest);
        TowerDown y = new TowerDown();
        y.conjure(1, 1, 1);
        due("two skies are two: count(1)", 0, () -> x.count(1));
    }

    private static void promise2() {
        TowerDown x = new TowerDown();
        due("conjure(20, 60, 200)", 0, () -> x.conjure(20, 60, 200));
        due("conjure(1, 1, 1)", 1, () -> x.conjure(1, 1, 1));
        facts("conjured", x, 0, 20, 60, 1, 200, -1, -1, 0, 20, 0, 0);
        facts("power as its load", x, 1, 1, 1, 1, 1, -1, -1, 0, 1, 0, 0);
        due("conjure(2, 1, 1)", 2, () -> x.conjure(2, 1, 1));
        facts("power below its load", x, 2, 2, 1, 0, 0, -1, -1, 0, 0, 0, 0);
        counts("a spell of 1 stays beside one that ended", x, 0, 3, 2, 2, 0, 201, 0, 21);
        due("first(1) of a power of 1", 1, () -> x.first(1));
        int[][] bad = {{0, 1, 1}, {21, 1, 1}, {-1, 1, 1}, {1, 0, 1}, {1, 61, 1}, {1, -9, 1}, {1, 1, 0}, {1, 1, 201},
            {1, 1, Integer.MIN_VALUE}, {Integer.MAX_VALUE, 1, 1}};
        TowerDown full = full();
        for (int[] b : bad) {
            String call = "conjure(" + b[0] + ", " + b[1] + ", " + b[2] + ")";
            refused(call, ARGUMENT, x, () -> x.conjure(b[0], b[1], b[2]));
            refused(call + " in a full sky", ARGUMENT, full, () -> full.conjure(b[0], b[1], b[2]));
        }
        refused("conjure of a 41st stone", STATE, full, () -> full.conjure(1, 1, 1));
        full.pass(120);
        refused("conjure of a 41st stone, 40 have fallen", STATE, full, () -> full.conjure(1, 1, 1));
        TowerDown almost = new TowerDown();
        for (int i = 0; i < 39; i++) {
            almost.conjure(1, 1, 1);
        }
        due("conjure of the 40th stone", 39, () -> almost.conjure(1, 1, 1));
    }

    private static void promise3() {
        TowerDown x = new TowerDown();
        x.conjure(1, 60, 200);
        due("hang(20, 60, 0, -1)", 1, () -> x.hang(20, 60, 0, -1));
        due("hang(5, 7, 1, 0)", 2, () -> x.hang(5, 7, 1, 0));
        facts("of two holds the first one bears more", x, 1, 20, 60, 1, 0, 0, -1, 0, 23, 3, 1);
        facts("of two holds the second one bears less", x, 0, 1, 60, 1, 200, -1, -1, 0, 26, 25, 2);
        facts("hung by two", x, 2, 5, 7, 1, 0, 1, 0, 0, 5, 0, 0);
        due("conjure(9, 9, 1)", 3, () -> x.conjure(9, 9, 1));
        int[][] bad = {{0, 1, 0, -1}, {21, 1, 0, -1}, {1, 0, 0, -1}, {1, 61, 0, -1}, {1, 1, 0, 0}, {1, 1, -1, -1},
            {1, 1, 77, 77}, {1, 1, 3, 3}, {0, 1, 77, -1}};
        for (int[] b : bad) {
            refused("hang of a wrong argument", ARGUMENT, x, () -> x.hang(b[0], b[1], b[2], b[3]));
        }
        int[][] none = {{4, -1}, {-1, 0}, {-2, 0}, {0, 4}, {0, -2}, {3, 4}, {4, 3}, {40, 0},
            {0, Integer.MAX_VALUE}, {Integer.MIN_VALUE, 0}};
        for (int[] b : none) {
            refused("hang from " + b[0] + ", " + b[1], INDEX, x, () -> x.hang(1, 1, b[0], b[1]));
        }
        refused("hang from a fallen one", STATE, x, () -> x.hang(1, 1, 3, -1));
        refused("hang from a fallen one first", STATE, x, () -> x.hang(1, 1, 3, 0));
        refused("hang from a fallen one second", STATE, x, () -> x.hang(1, 1, 0, 3));
        TowerDown full = full();
        refused("hang of a 41st stone", STATE, full, () -> full.hang(1, 1, 0, -1));
        refused("hang of a 41st stone by none", INDEX, full, () -> full.hang(1, 1, 0, 40));
        refused("hang of a 41st stone, too heavy", ARGUMENT, full, () -> full.hang(21, 1, 0, -1));
        givingWayBehindHanging();
    }

    private static void givingWayBehindHanging() {
        TowerDown x = new TowerDown();
        x.conjure(1, 10, 200);
        x.hang(10, 10, 0, -1);
        facts("pull as its strength", x, 0, 1, 10, 1, 200, -1, -1, 0, 11, 10, 1);
        due("hang of one too much", 2, () -> x.hang(1, 10, 0, -1));
        counts("all holds tear", x, 0, 3, 1, 1, 0, 200, 0, 1);
        facts("fell", x, 1, 10, 10, 0, 0, -1, -1, 0, 0, 0, 0);
        facts("fell, too", x, 2, 1, 10, 0, 0, -1, -1, 0, 0, 0, 0);

        TowerDown y = new TowerDown();
        y.conjure(1, 60, 200);
        y.conjure(1, 4, 200);
        y.hang(8, 60, 1, 0);
        facts("both bear", y, 2, 8, 60, 1, 0, 1, 0, 0, 8, 0, 0);
        due("hang of what tears the first hold of another", 3, () -> y.hang(1, 60, 1, 0));
        facts("its second hold is the first one now", y, 2, 8, 60, 1, 0, 0, -1, 0, 8, 0, 0);
        facts("the new one lost it, too", y, 3, 1, 60, 1, 0, 0, -1, 0, 1, 0, 0);
        facts("the rest bears all", y, 0, 1, 60, 1, 200, -1, -1, 0, 10, 9, 2);
        facts("it bears nothing", y, 1, 1, 4, 1, 200, -1, -1, 0, 1, 0, 0);

        TowerDown z = new TowerDown();
        z.conjure(1, 60, 6);
        z.conjure(1, 60, 200);
        z.hang(9, 60, 0, 1);
        due("hang of what ends a spell", 3, () -> z.hang(1, 60, 0, -1));
        facts("the spell ended", z, 0, 1, 60, 0, 0, -1, -1, 0, 0, 0, 0);
        facts("the other one holds", z, 2, 9, 60, 1, 0, 1, -1, 0, 9, 0, 0);
        facts("nothing holds", z, 3, 1, 60, 0, 0, -1, -1, 0, 0, 0, 0);

        TowerDown s = new TowerDown();
        s.conjure(1, 9, 200);
        s.conjure(1, 5, 200);
        s.hang(6, 60, 0, 1);
        s.hang(4, 60, 0, 1);
        counts("each bears 5", s, 0, 4, 4, 2, 0, 400, 0, 12);
        s.hang(2, 60, 0, 1);
        counts("second holds alone tear, the first ones behind them", s, 0, 5, 2, 2, 0, 400, 0, 2);

        TowerDown r = rounds();
        counts("a second round by new loads", r, 0, 4, 2, 2, 0, 400, 0, 2);
        givingWayOfAllAtOnce();
    }

    /** In the first round stone 1 lets go, in the second one stone 0 bears all of stone 2 and lets go, too. */
    private static TowerDown rounds() {
        TowerDown x = new TowerDown();
        x.conjure(1, 5, 200);
        x.conjure(1, 5, 200);
        x.hang(9, 60, 0, 1);
        x.hang(2, 60, 1, -1);
        return x;
    }

    /** Stones 1 and 0 are both pulled too much in one round: that 1 lets go does not save 0's holds. */
    private static void givingWayOfAllAtOnce() {
        TowerDown x = new TowerDown();
        x.conjure(1, 10, 200);
        x.hang(1, 9, 0, -1);
        x.hang(9, 60, 1, -1);
        counts("both bear all they can", x, 0, 3, 3, 1, 0, 200, 0, 11);
        x.hang(1, 60, 1, -1);
        counts("all of a round by the loads ahead of it", x, 0, 4, 1, 1, 0, 200, 0, 1);
    }

    private static void promise4() {
        TowerDown x = small();
        due("prop(1, 4)", 0, () -> x.prop(1, 4));
        facts("propped", x, 1, 4, 20, 1, 0, 0, -1, 4, 2, 2, 1);
        due("prop(1, 60)", 0, () -> x.prop(1, 60));
        facts("a load is at least 0", x, 1, 4, 20, 1, 0, 0, -1, 60, 0, 2, 1);
        facts("and nothing of it is borne above", x, 0, 5, 30, 1, 60, -1, -1, 0, 12, 7, 2);
        due("prop(1, 0)", 0, () -> x.prop(1, 0));
        facts("without a prop", x, 1, 4, 20, 1, 0, 0, -1, 0, 6, 2, 1);
        for (int stone : new int[] {-1, 5, 40, Integer.MAX_VALUE, Integer.MIN_VALUE}) {
            refused("prop(" + stone + ", 1)", INDEX, x, () -> x.prop(stone, 1));
            refused("prop(" + stone + ", 61)", INDEX, x, () -> x.prop(stone, 61));
        }
        for (int prop : new int[] {-1, 61, Integer.MAX_VALUE, Integer.MIN_VALUE}) {
            refused("prop(0, " + prop + ")", ARGUMENT, x, () -> x.prop(0, prop));
            refused("prop(4, " + prop + ") of a fallen one", ARGUMENT, x, () -> x.prop(4, prop));
        }
        refused("prop(4, 1) of a fallen one", STATE, x, () -> x.prop(4, 1));

        TowerDown y = new TowerDown();
        y.conjure(1, 10, 200);
        y.hang(10, 60, 0, -1);
        y.prop(1, 5);
        y.hang(5, 60, 1, -1);
        due("prop(1, 5) again", 0, () -> y.prop(1, 5));
        due("prop(1, 4) lets two fall", 2, () -> y.prop(1, 4));
        facts("fallen, with its latest prop", y, 1, 10, 60, 0, 0, -1, -1, 4, 0, 0, 0);

        TowerDown z = new TowerDown();
        z.conjure(1, 10, 5);
        z.prop(0, 9);
        z.hang(10, 10, 0, -1);
        facts("power above its load", z, 0, 1, 10, 1, 5, -1, -1, 9, 2, 10, 1);
        due("prop(0, 5) lets the spell end", 2, () -> z.prop(0, 5));
    }

    private static void promise5() {
        TowerDown x = small();
        due("renew(0, 18)", 60, () -> x.renew(0, 18));
        due("renew(0, 200)", 18, () -> x.renew(0, 200));
        facts("renewed", x, 0, 5, 30, 1, 200, -1, -1, 0, 18, 13, 2);
        refused("renew below its load", STATE, x, () -> x.renew(0, 17));
        refused("renew of one by a hold", STATE, x, () -> x.renew(1, 200));
        refused("renew of a fallen one", STATE, x, () -> x.renew(4, 200));
        for (int power : new int[] {0, 201, -1, Integer.MAX_VALUE, Integer.MIN_VALUE}) {
            refused("renew(0, " + power + ")", ARGUMENT, x, () -> x.renew(0, power));
            refused("renew(4, " + power + ") of a fallen one", ARGUMENT, x, () -> x.renew(4, power));
            refused("renew(5, " + power + ") of none", INDEX, x, () -> x.renew(5, power));
        }
        refused("renew(-1, 9)", INDEX, x, () -> x.renew(-1, 9));
        x.prop(0, 60);
        due("renew(0, 1) with a load of 0", 200, () -> x.renew(0, 1));
        due("renew(0, 7) of a power of 1", 1, () -> x.renew(0, 7));
    }

    private static void promise6() {
        TowerDown x = small();
        due("stair(0, 3)", 0, () -> x.stair(0, 3));
        due("stair(3, 0)", 1, () -> x.stair(3, 0));
        due("stair(3, 0) again", 2, () -> x.stair(3, 0));
        due("count(4)", 3, () -> x.count(4));
        int[][] none = {{-1, 0}, {0, -1}, {5, 0}, {0, 5}, {5, 5}, {-1, -1}, {4, 5}, {Integer.MAX_VALUE, 0}};
        for (int[] b : none) {
            refused("stair(" + b[0] + ", " + b[1] + ")", INDEX, x, () -> x.stair(b[0], b[1]));
        }
        refused("stair(0, 0)", ARGUMENT, x, () -> x.stair(0, 0));
        refused("stair(4, 4) of a fallen one", ARGUMENT, x, () -> x.stair(4, 4));
        refused("stair(0, 4) to a fallen one", STATE, x, () -> x.stair(0, 4));
        refused("stair(4, 0) from a fallen one", STATE, x, () -> x.stair(4, 0));
        for (int i = 3; i < 29; i++) {
            x.stair(1, 2);
        }
        due("the 30th stair", 29, () -> x.stair(1, 2));
        refused("a 31st stair", STATE, x, () -> x.stair(1, 2));
        refused("a 31st stair to itself", ARGUMENT, x, () -> x.stair(1, 1));
        x.pass(120);
        x.conjure(1, 1, 9);
        x.conjure(1, 1, 9);
        refused("a 31st stair, all others are gone", STATE, x, () -> x.stair(5, 6));
    }

    private static void promise7() {
        TowerDown x = small();
        x.stair(0, 1);
        x.stair(2, 3);
        x.stair(3, 0);
        due("swap(0, 1)", true, () -> x.swap(0, 1));
        due("joins(0, 0)", 0, () -> x.joins(0, 0));
        due("joins(0, 1)", 3, () -> x.joins(0, 1));
        due("joins(1, 0)", 2, () -> x.joins(1, 0));
        due("joins(1, 1)", 1, () -> x.joins(1, 1));
        long before = x.digest();
        due("swap(0, 2): the first one would join 0 and 0", false, () -> x.swap(0, 2));
        due("swap(2, 0): the other one would join 0 and 0", false, () -> x.swap(2, 0));
        due("what is not done changes nothing", before, x::digest);
        int[][] none = {{-1, 0}, {0, -1}, {3, 0}, {0, 3}, {3, 3}, {30, 0}, {0, Integer.MIN_VALUE}};
        for (int[] b : none) {
            refused("swap(" + b[0] + ", " + b[1] + ")", INDEX, x, () -> x.swap(b[0], b[1]));
        }
        refused("swap(1, 1)", ARGUMENT, x, () -> x.swap(1, 1));

        TowerDown y = new TowerDown();
        y.conjure(1, 60, 200);
        y.conjure(1, 60, 200);
        y.conjure(1, 60, 2);
        y.stair(0, 1);
        y.stair(0, 2);
        y.stair(1, 2);
        due("swap of ends as they are", true, () -> y.swap(1, 2));
        due("swap(0, 2): the other one would join 1 and 1", false, () -> y.swap(0, 2));
        y.pass(1);
        refused("swap of a gone one second", STATE, y, () -> y.swap(0, 1));
        refused("swap of a gone one first", STATE, y, () -> y.swap(1, 0));
        refused("swap of a gone one with itself", ARGUMENT, y, () -> y.swap(1, 1));
    }

    private static void promise8() {
        TowerDown x = small();
        x.stair(3, 0);
        x.conjure(1, 1, 2);
        x.stair(5, 0);
        x.stair(0, 5);
        due("joins(0, 0)", 3, () -> x.joins(0, 0));
        due("joins(0, 1)", 0, () -> x.joins(0, 1));
        due("joins(1, 2) ahead of it", 0, () -> x.joins(1, 2));
        x.pass(1);
        due("joins(0, 2)", 0, () -> x.joins(0, 2));
        due("joins(1, 2) with its first one fallen", 1, () -> x.joins(1, 2));
        due("joins(2, 2) with its second one fallen", 1, () -> x.joins(2, 2));
        due("joins(1, 0) of a gone one", 5, () -> x.joins(1, 0));
        due("joins(1, 1) of a gone one", 0, () -> x.joins(1, 1));
        int[][] none = {{-1, 0}, {3, 0}, {0, -1}, {0, 3}, {30, 0}, {Integer.MAX_VALUE, 0}, {0, Integer.MIN_VALUE}};
        for (int[] b : none) {
            refused("joins(" + b[0] + ", " + b[1] + ")", INDEX, x, () -> x.joins(b[0], b[1]));
        }
    }

    private static void promise9() {
        TowerDown x = new TowerDown();
        for (int i = 0; i < 31; i++) {
            x.conjure(1, 1, i == 7 ? 2 : 200);
        }
        for (int i = 30; i > 0; i--) {
            x.stair(i, i - 1);
        }
        due("steps(0, 0)", 0, () -> x.steps(0, 0));
        due("steps(0, 30)", 30, () -> x.steps(0, 30));
        due("steps(30, 0)", 30, () -> x.steps(30, 0));
        due("steps(12, 9)", 3, () -> x.steps(12, 9));
        due("steps(9, 9)", 0, () -> x.steps(9, 9));
        due("steps(7, 7)", 0, () -> x.steps(7, 7));
        x.pass(1);
        due("steps(6, 8) over a fallen one", -1, () -> x.steps(6, 8));
        due("steps(6, 7) to a fallen one", -1, () -> x.steps(6, 7));
        due("steps(7, 6) from a fallen one", -1, () -> x.steps(7, 6));
        due("steps(7, 7) of a fallen one", -1, () -> x.steps(7, 7));
        due("steps(8, 30)", 22, () -> x.steps(8, 30));

        TowerDown y = new TowerDown();
        for (int i = 0; i < 6; i++) {
            y.conjure(1, 1, 200);
        }
        due("steps(0, 1) without stairs", -1, () -> y.steps(0, 1));
        int[][] ways = {{0, 1}, {1, 2}, {2, 3}, {3, 0}, {3, 4}};
        for (int[] way : ways) {
            y.stair(way[0], way[1]);
        }
        due("steps(0, 3) the shorter way", 1, () -> y.steps(0, 3));
        due("steps(0, 4)", 2, () -> y.steps(0, 4));
        due("steps(0, 2)", 2, () -> y.steps(0, 2));
        due("steps(0, 5) without a way", -1, () -> y.steps(0, 5));
        int[][] none = {{-1, 0}, {0, -1}, {6, 0}, {0, 6}, {6, 6}, {40, 0}, {Integer.MIN_VALUE, Integer.MAX_VALUE}};
        for (int[] b : none) {
            refused("steps(" + b[0] + ", " + b[1] + ")", INDEX, y, () -> y.steps(b[0], b[1]));
        }
    }

    private static void promise10() {
        TowerDown x = small();
        facts("by a spell", x, 0, 5, 30, 1, 60, -1, -1, 0, 18, 13, 2);
        facts("by a hold", x, 1, 4, 20, 1, 0, 0, -1, 0, 6, 2, 1);
        facts("by a hold, too", x, 2, 6, 20, 1, 0, 0, -1, 0, 7, 1, 1);
        facts("by two holds", x, 3, 3, 10, 1, 0, 1, 2, 0, 3, 0, 0);
        facts("fallen", x, 4, 9, 10, 0, 0, -1, -1, 0, 0, 0, 0);
        int[][] none = {{-1, 0}, {5, 0}, {0, -1}, {0, 10}, {4, 10}, {40, 0}, {Integer.MAX_VALUE, 0},
            {0, Integer.MIN_VALUE}};
        for (int[] b : none) {
            refused("stone(" + b[0] + ", " + b[1] + ")", INDEX, x, () -> x.stone(b[0], b[1]));
        }
    }

    private static void promise11() {
        TowerDown x = small();
        due("first(0)", 0, () -> x.first(0));
        due("first(1)", 0, () -> x.first(1));
        due("first(3)", 0, () -> x.first(3));
        due("first(4) of a fallen one", -1, () -> x.first(4));
        x.conjure(1, 20, 100);
        x.hang(1, 1, 5, 3);
        x.hang(1, 1, 3, 5);
        due("first(6) along the first hold", 5, () -> x.first(6));
        due("first(7) along the first hold", 0, () -> x.first(7));
        refused("first(-1)", INDEX, x, () -> x.first(-1));
        refused("first(8)", INDEX, x, () -> x.first(8));
        refused("first(40)", INDEX, x, () -> x.first(40));
        x.pass(30);
        due("first(7) along what is its first hold now", 5, () -> x.first(7));
        due("first(3) of a fallen one", -1, () -> x.first(3));

        TowerDown y = new TowerDown();
        y.conjure(1, 60, 200);
        for (int i = 1; i < 40; i++) {
            y.hang(1, 60, i - 1, -1);
        }
        due("first(39) of a long tower", 0, () -> y.first(39));
    }

    private static void promise12() {
        TowerDown x = small();
        x.conjure(2, 5, 33);
        x.stair(0, 1);
        x.stair(5, 0);
        x.prop(1, 2);
        x.prop(5, 1);
        counts("small", x, 0, 6, 5, 2, 2, 93, 3, 17);
        x.pass(16);
        counts("16 days later", x, 16, 6, 5, 2, 2, 29, 3, 17);
        x.pass(1);
        counts("17 days later", x, 17, 6, 4, 1, 1, 26, 2, 16);
        x.prop(0, 7);
        counts("a prop of the first one", x, 17, 6, 4, 1, 1, 26, 9, 9);
        refused("prop(5, 0) of one that fell since", STATE, x, () -> x.prop(5, 0));
        for (int what : new int[] {-1, 8, Integer.MAX_VALUE, Integer.MIN_VALUE}) {
            refused("count(" + what + ")", INDEX, x, () -> x.count(what));
        }
    }

    private static void promise13() {
        TowerDown x = small();
        due("pass(21)", 0, () -> x.pass(21));
        due("power", 18, () -> x.stone(0, 3));
        due("pass(1)", 4, () -> x.pass(1));
        counts("all have fallen", x, 22, 5, 0, 0, 0, 0, 0, 0);
        due("pass(120)", 0, () -> x.pass(120));
        due("count(0)", 142, () -> x.count(0));
        for (int days : new int[] {0, -1, 121, Integer.MAX_VALUE, Integer.MIN_VALUE}) {
            refused("pass(" + days + ")", ARGUMENT, x, () -> x.pass(days));
        }

        TowerDown y = new TowerDown();
        y.conjure(1, 60, 3);
        y.prop(0, 60);
        due("pass(1) with a power of 3 and a load of 0", 0, () -> y.pass(1));
        due("power of 1", 1, () -> y.stone(0, 3));
        due("pass(1) with a power of 1", 1, () -> y.pass(1));

        TowerDown z = new TowerDown();
        z.conjure(1, 60, 4);
        z.prop(0, 60);
        z.conjure(1, 5, 200);
        z.hang(6, 60, 0, 1);
        due("pass(1) down to 2", 0, () -> z.pass(1));
        due("pass(1) down to 0: it gives way on the same day", 2, () -> z.pass(1));
        counts("what tore on that day", z, 2, 3, 1, 1, 0, 196, 0, 1);
    }

    private static void promise14() {
        TowerDown x = small();
        long before = x.digest();
        due("without(0)", 4, () -> x.without(0));
        due("without(1)", 1, () -> x.without(1));
        due("without(3)", 1, () -> x.without(3));
        due("without(4) of a fallen one", 0, () -> x.without(4));
        due("without changes nothing", before, x::digest);
        refused("without(-1)", INDEX, x, () -> x.without(-1));
        refused("without(5)", INDEX, x, () -> x.without(5));
        refused("without(40)", INDEX, x, () -> x.without(40));

        TowerDown y = new TowerDown();
        y.conjure(1, 5, 200);
        y.conjure(1, 5, 200);
        y.hang(9, 60, 0, 1);
        due("without(0): the other one lets go behind it", 2, () -> y.without(0));
        due("without(2)", 1, () -> y.without(2));
        y.conjure(1, 5, 200);
        y.hang(1, 5, 3, -1);
        due("without(1) with others beside it", 2, () -> y.without(1));
        due("without(3)", 2, () -> y.without(3));
    }

    private static void promise15() {
        TowerDown x = small();
        long before = x.digest();
        due("lasts(0)", 22, () -> x.lasts(0));
        due("lasts(3)", 22, () -> x.lasts(3));
        due("lasts(4) of a fallen one", 0, () -> x.lasts(4));
        due("lasts changes nothing", before, x::digest);
        refused("lasts(-1)", INDEX, x, () -> x.lasts(-1));
        refused("lasts(5)", INDEX, x, () -> x.lasts(5));
        refused("lasts(40)", INDEX, x, () -> x.lasts(40));
        x.conjure(1, 1, 1);
        due("lasts of one day", 1, () -> x.lasts(5));
        x.conjure(1, 1, 200);
        due("lasts of a power of 200", 100, () -> x.lasts(6));
        x.prop(6, 1);
        due("lasts of a power of 200 with a load of 0", 100, () -> x.lasts(6));
        x.pass(22);
        due("lasts of it 22 days later", 78, () -> x.lasts(6));
        due("lasts of what has fallen since", 0, () -> x.lasts(0));
    }

    private static void promise16() {
        TowerDown x = small();
        x.conjure(2, 5, 33);
        x.stair(0, 1);
        x.stair(5, 0);
        long before = x.digest();
        due("foresee(16, 0)", 4, () -> x.foresee(16, 0));
        due("foresee(15, 0)", 5, () -> x.foresee(15, 0));
        due("foresee(15, 1)", 2, () -> x.foresee(15, 1));
        due("foresee(15, 2)", 33, () -> x.foresee(15, 2));
        due("foresee(16, 1)", 1, () -> x.foresee(16, 1));
        due("foresee(16, 2)", 28, () -> x.foresee(16, 2));
        due("foresee(1, 2)", 89, () -> x.foresee(1, 2));
        due("foresee(120, 0)", 0, () -> x.foresee(120, 0));
        due("foresee changes nothing", before, x::digest);
        for (int days : new int[] {0, -1, 121, Integer.MAX_VALUE, Integer.MIN_VALUE}) {
            refused("foresee(" + days + ", 0)", ARGUMENT, x, () -> x.foresee(days, 0));
            refused("foresee(" + days + ", 3)", ARGUMENT, x, () -> x.foresee(days, 3));
        }
        for (int what : new int[] {-1, 3, Integer.MAX_VALUE, Integer.MIN_VALUE}) {
            refused("foresee(1, " + what + ")", INDEX, x, () -> x.foresee(1, what));
        }
    }

    private static void promise17() {
        TowerDown x = small();
        long before = x.digest();
        due("advise(1, 21): all hang anyway", -1, () -> x.advise(1, 21));
        due("advise(1, 22): stone 0 of power 16 and load 17", -1, () -> x.advise(1, 22));
        due("advise(2, 22): stone 0, and each of 1 to 3 would do, too", 0, () -> x.advise(2, 22));
        due("advise(60, 30): none lasts so long", -1, () -> x.advise(60, 30));
        due("advise(60, 29): stone 0 alone", 0, () -> x.advise(60, 29));
        due("advise changes nothing", before, x::digest);
        for (int bad : new int[] {0, -1, 61, Integer.MAX_VALUE, Integer.MIN_VALUE}) {
            refused("advise(" + bad + ", 1)", ARGUMENT, x, () -> x.advise(bad, 1));
            refused("advise(1, " + bad + ")", ARGUMENT, x, () -> x.advise(1, bad));
        }
        due("advise(1, 1) of an empty sky", -1, () -> new TowerDown().advise(1, 1));
        TowerDown w = new TowerDown();
        w.conjure(20, 60, 122);
        w.conjure(20, 60, 122);
        w.hang(19, 60, 1, -1);
        due("advise(60, 60)", 1, () -> w.advise(60, 60));
        due("advise(37, 60)", 1, () -> w.advise(37, 60));
        due("advise(36, 60)", 0, () -> w.advise(36, 60));
        due("advise(18, 60): a load as the power of 2", 0, () -> w.advise(18, 60));
        due("advise(17, 60)", -1, () -> w.advise(17, 60));

        TowerDown y = new TowerDown();
        y.conjure(4, 10, 8);
        y.conjure(4, 10, 8);
        y.hang(1, 10, 1, -1);
        due("advise(5, 3): the most of all, not the first that helps", 1, () -> y.advise(5, 3));
        due("advise(60, 4): the spells are over", -1, () -> y.advise(60, 4));

        TowerDown z = new TowerDown();
        z.conjure(20, 60, 100);
        z.hang(20, 60, 0, -1);
        z.hang(20, 60, 1, -1);
        z.hang(20, 60, 2, -1);
        z.prop(0, 59);
        due("load of 21", 21, () -> z.stone(0, 7));
        due("advise(60, 40): by 0 at most 1 less, to 60, and so by 1", 0, () -> z.advise(60, 40));
        due("advise(1, 40)", 0, () -> z.advise(1, 40));
        due("advise(60, 41): by 1 alone", 1, () -> z.advise(60, 41));
        due("advise(1, 41)", -1, () -> z.advise(1, 41));
    }

    private static void promise18() {
        TowerDown x = small();
        due("mean()", 34.0 / 4, x::mean);
        TowerDown y = new TowerDown();
        y.conjure(7, 1, 9);
        due("mean() of one", 7.0, y::mean);
        x.prop(3, 1);
        due("mean() of loads of 2, 7, 5, 17", 31.0 / 4, x::mean);
        x.conjure(1, 1, 200);
        x.conjure(2, 1, 200);
        due("mean() of loads of 34 in all", 34.0 / 6, x::mean);
        x.conjure(2, 1, 200);
        due("mean() of loads of 36 in all", 36.0 / 7, x::mean);
        x.pass(30);
        due("mean() of three", 5.0 / 3, x::mean);
        x.pass(120);
        due("mean() of none", 0.0, x::mean);
    }

    private static void promise19() {
        TowerDown x = small();
        x.stair(0, 1);
        x.stair(3, 2);
        x.swap(0, 1);
        x.prop(2, 3);
        x.conjure(1, 1, 2);
        x.stair(5, 0);
        due("digest()", told(x), x::digest);
        x.pass(1);
        due("digest() a day later", told(x), x::digest);
        x.pass(120);
        due("digest() at the end", told(x), x::digest);
    }

    private static long told(TowerDown x) {
        long d = 971;
        for (int what = 0; what < 8; what++) {
            d = d * 31 + x.count(what);
        }
        for (int stone = 0; stone < x.count(1); stone++) {
            for (int what = 0; what < 10; what++) {
                d = d * 31 + x.stone(stone, what);
            }
        }
        try {
            for (int stair = 0; stair < 31; stair++) {
                for (int what = 0; what < 3; what++) {
                    d = d * 31 + x.joins(stair, what);
                }
            }
        } catch (IndexOutOfBoundsException e) {
            return d;
        }
        return d;
    }

    public static void main(String[] args) {
        promise1();
        promise2();
        promise3();
        promise4();
        promise5();
        promise6();
        promise7();
        promise8();
        promise9();
        promise10();
        promise11();
        promise12();
        promise13();
        promise14();
        promise15();
        promise16();
        promise17();
        promise18();
        promise19();
        System.out.println(wrong == 0 ? "all answers are as due" : wrong + " answers are not as due");
        if (wrong != 0) {
            System.exit(1);
        }
    }
}
