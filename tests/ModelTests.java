import java.util.ArrayList;
import java.util.HashMap;
import java.util.List;
import java.util.Map;

/**
 * Long runs of calls, each answered by the class and by a slow model of the document, which measures all anew
 * at each question and copies whole skies.
 */
public final class ModelTests {
    private static final int RUNS = 160;
    // A digest is asked behind each of them, and nothing is promised of an object behind its 512th call.
    private static final int CALLS = 256;

    private static final class Stone {
        int weight;
        int strength;
        int prop;
        int power;
        boolean fallen;
        List<Integer> holds = new ArrayList<>();
    }

    private static final class Stair {
        int a;
        int b;
        boolean gone;
    }

    private static final class Model {
        final List<Stone> stones = new ArrayList<>();
        final List<Stair> stairs = new ArrayList<>();
        int day;
        boolean torn;

        Model copy() {
            Model c = new Model();
            c.day = day;
            for (Stone s : stones) {
                Stone t = new Stone();
                t.weight = s.weight;
                t.strength = s.strength;
                t.prop = s.prop;
                t.power = s.power;
                t.fallen = s.fallen;
                t.holds.addAll(s.holds);
                c.stones.add(t);
            }
            for (Stair s : stairs) {
                Stair t = new Stair();
                t.a = s.a;
                t.b = s.b;
                t.gone = s.gone;
                c.stairs.add(t);
            }
            return c;
        }

        int pull(int n, Map<Integer, Integer> known) {
            int pull = 0;
            for (int i = 0; i < stones.size(); i++) {
                List<Integer> holds = stones.get(i).holds;
                int at = holds.indexOf(n);
                if (at >= 0) {
                    int load = load(i, known);
                    pull += holds.size() == 1 ? load : at == 0 ? load - load / 2 : load / 2;
                }
            }
            return pull;
        }

        int load(int n, Map<Integer, Integer> known) {
            Stone s = stones.get(n);
            if (s.fallen) {
                return 0;
            }
            if (!known.containsKey(n)) {
                known.put(n, Math.max(0, s.weight + pull(n, known) - s.prop));
            }
            return known.get(n);
        }

        int load(int n) {
            return load(n, new HashMap<>());
        }

        void tearFrom(int n) {
            for (Stone s : stones) {
                torn |= s.holds.remove((Integer) n);
            }
        }

        void fall() {
            for (int i = 0; i < stones.size(); i++) {
                Stone s = stones.get(i);
                if (!s.fallen && s.power == 0 && s.holds.isEmpty()) {
                    s.fallen = true;
                    tearFrom(i);
                    for (Stair stair : stairs) {
                        stair.gone |= stair.a == i || stair.b == i;
                    }
                }
            }
        }

        void giveWay() {
            do {
                torn = false;
                Map<Integer, Integer> known = new HashMap<>();
                List<Integer> over = new ArrayList<>();
                List<Stone> ending = new ArrayList<>();
                for (int i = 0; i < stones.size(); i++) {
                    Stone s = stones.get(i);
                    if (!s.fallen && pull(i, known) > s.strength) {
                        over.add(i);
                    }
                    if (s.power > 0 && s.power < load(i, known)) {
                        ending.add(s);
                    }
                }
                for (int i : over) {
                    tearFrom(i);
                }
                for (Stone s : ending) {
                    s.power = 0;
                    torn = true;
                }
                fall();
            } while (torn);
        }

        void days(int days) {
            for (int d = 0; d < days; d++) {
                for (Stone s : stones) {
                    s.power = Math.max(0, s.power - 2);
                }
                fall();
                giveWay();
                day++;
            }
        }

        int hanging() {
            int n = 0;
            for (Stone s : stones) {
                n += s.fallen ? 0 : 1;
            }
            return n;
        }

        boolean isStone(int n) {
            return n >= 0 && n < stones.size();
        }

        boolean isStair(int n) {
            return n >= 0 && n < stairs.size();
        }

        boolean fallen(int n) {
            return stones.get(n).fallen;
        }

        static void argument(boolean bad) {
            if (bad) {
                throw new IllegalArgumentException();
            }
        }

        static void index(boolean bad) {
            if (bad) {
                throw new IndexOutOfBoundsException();
            }
        }

        static void state(boolean bad) {
            if (bad) {
                throw new IllegalStateException();
            }
        }

        static boolean out(int n, int least, int most) {
            return n < least || n > most;
        }

        long conjure(int weight, int strength, int power) {
            argument(out(weight, 1, 20) || out(strength, 1, 60) || out(power, 1, 200));
            state(stones.size() == 40);
            Stone s = new Stone();
            s.weight = weight;
            s.strength = strength;
            s.power = power;
            stones.add(s);
            giveWay();
            return stones.size() - 1;
        }

        long hang(int weight, int strength, int from, int other) {
            argument(out(weight, 1, 20) || out(strength, 1, 60) || from == other);
            index(!isStone(from));
            index(other != -1 && !isStone(other));
            state(stones.size() == 40 || fallen(from) || (other != -1 && fallen(other)));
            Stone s = new Stone();
            s.weight = weight;
            s.strength = strength;
            s.holds.add(from);
            if (other != -1) {
                s.holds.add(other);
            }
            stones.add(s);
            giveWay();
            return stones.size() - 1;
        }

        long prop(int n, int prop) {
            index(!isStone(n));
            argument(out(prop, 0, 60));
            state(fallen(n));
            int before = hanging();
            stones.get(n).prop = prop;
            giveWay();
            return before - hanging();
        }

        long renew(int n, int power) {
            index(!isStone(n));
            argument(out(power, 1, 200));
            state(stones.get(n).power == 0 || power < load(n));
            int before = stones.get(n).power;
            stones.get(n).power = power;
            return before;
        }

        long stair(int a, int b) {
            index(!isStone(a) || !isStone(b));
            argument(a == b);
            state(stairs.size() == 30 || fallen(a) || fallen(b));
            Stair s = new Stair();
            s.a = a;
            s.b = b;
            stairs.add(s);
            return stairs.size() - 1;
        }

        long swap(int one, int other) {
            index(!isStair(one) || !isStair(other));
            argument(one == other);
            Stair s = stairs.get(one);
            Stair t = stairs.get(other);
            state(s.gone || t.gone);
            if (s.a == t.b || t.a == s.b) {
                return 0;
            }
            int b = s.b;
            s.b = t.b;
            t.b = b;
            return 1;
        }

        long joins(int n, int what) {
            index(!isStair(n) || out(what, 0, 2));
            Stair s = stairs.get(n);
            return what == 0 ? s.a : what == 1 ? s.b : s.gone ? 1 : 0;
        }

        long steps(int from, int to) {
            index(!isStone(from) || !isStone(to));
            if (fallen(from) || fallen(to)) {
                return -1;
            }
            int far = 1000;
            int[][] way = new int[40][40];
            for (int i = 0; i < 40; i++) {
                for (int j = 0; j < 40; j++) {
                    way[i][j] = i == j ? 0 : far;
                }
            }
            for (Stair s : stairs) {
                if (!s.gone) {
                    way[s.a][s.b] = 1;
                    way[s.b][s.a] = 1;
                }
            }
            for (int k = 0; k < 40; k++) {
                for (int i = 0; i < 40; i++) {
                    for (int j = 0; j < 40; j++) {
                        way[i][j] = Math.min(way[i][j], way[i][k] + way[k][j]);
                    }
                }
            }
            return way[from][to] >= far ? -1 : way[from][to];
        }

        long stone(int n, int what) {
            index(!isStone(n) || out(what, 0, 9));
            Stone s = stones.get(n);
            switch (what) {
                case 0: return s.weight;
                case 1: return s.strength;
                case 2: return s.fallen ? 0 : 1;
                case 3: return s.power;
                case 4: return s.holds.isEmpty() ? -1 : s.holds.get(0);
                case 5: return s.holds.size() < 2 ? -1 : s.holds.get(1);
                case 6: return s.prop;
                case 7: return load(n);
                case 8: return pull(n, new HashMap<>());
                default:
                    int held = 0;
                    for (Stone t : stones) {
                        held += t.holds.contains(n) ? 1 : 0;
                    }
                    return held;
            }
        }

        long first(int n) {
            index(!isStone(n));
            if (fallen(n)) {
                return -1;
            }
            return stones.get(n).power > 0 ? n : first(stones.get(n).holds.get(0));
        }

        long count(int what) {
            index(out(what, 0, 7));
            if (what < 3) {
                return what == 0 ? day : what == 1 ? stones.size() : hanging();
            }
            long sum = 0;
            if (what == 4) {
                for (Stair s : stairs) {
                    sum += s.gone ? 0 : 1;
                }
                return sum;
            }
            for (int i = 0; i < stones.size(); i++) {
                Stone s = stones.get(i);
                if (!s.fallen) {
                    sum += what == 6 ? s.prop : s.power == 0 ? 0 : what == 3 ? 1 : what == 5 ? s.power : load(i);
                }
            }
            return sum;
        }

        long pass(int days) {
            argument(out(days, 1, 120));
            int before = hanging();
            days(days);
            return before - hanging();
        }

        long without(int n) {
            index(!isStone(n));
            Model c = copy();
            c.stones.get(n).power = 0;
            c.stones.get(n).holds.clear();
            c.fall();
            c.giveWay();
            return hanging() - c.hanging();
        }

        long lasts(int n) {
            index(!isStone(n));
            Model c = copy();
            for (int d = 0; d <= 120; d++) {
                if (c.fallen(n)) {
                    return d;
                }
                c.days(1);
            }
            return -1;
        }

        long foresee(int days, int what) {
            argument(out(days, 1, 120));
            index(out(what, 0, 2));
            Model c = copy();
            c.days(days);
            return c.count(what == 0 ? 2 : what == 1 ? 4 : 5);
        }

        long advise(int more, int days) {
            argument(out(more, 1, 60) || out(days, 1, 60));
            Model c = copy();
            c.days(days);
            int most = c.hanging();
            int best = -1;
            for (int i = 0; i < stones.size(); i++) {
                c = copy();
                c.stones.get(i).prop = Math.min(60, c.stones.get(i).prop + more);
                c.giveWay();
                c.days(days);
                if (c.hanging() > most) {
                    most = c.hanging();
                    best = i;
                }
            }
            return best;
        }

        double mean() {
            double sum = 0;
            for (int i = 0; i < stones.size(); i++) {
                sum += load(i);
            }
            return hanging() == 0 ? 0 : sum / hanging();
        }

        long digest() {
            long d = 971;
            for (int what = 0; what < 8; what++) {
                d = d * 31 + count(what);
            }
            for (int i = 0; i < stones.size(); i++) {
                for (int what = 0; what < 10; what++) {
                    d = d * 31 + stone(i, what);
                }
            }
            for (int i = 0; i < stairs.size(); i++) {
                for (int what = 0; what < 3; what++) {
                    d = d * 31 + joins(i, what);
                }
            }
            return d;
        }
    }

    private interface Call {
        Object run();
    }

    private static Object answer(Call call) {
        try {
            return call.run();
        } catch (RuntimeException e) {
            return e.getClass().getName();
        }
    }

    private static long seed;

    private static int below(int bound) {
        seed = seed * 6364136223846793005L + 1442695040888963407L;
        return (int) ((seed >>> 33) % bound);
    }

    /** Now and then one beside the range. */
    private static int within(int least, int most) {
        return below(40) == 0 ? (below(2) == 0 ? least - 1 : most + 1) : least + below(most - least + 1);
    }

    private static int wrong = 0;

    private static void run(int number) {
        seed = number * 7919L + 17;
        int heavy = 1 + below(20);
        int weak = 1 + below(60);
        int young = 1 + below(200);
        int slow = 1 + below(60);
        TowerDown x = new TowerDown();
        Model m = new Model();
        for (int i = 0; i < CALLS; i++) {
            int kind = below(100);
            int n = m.stones.size();
            int l = m.stairs.size();
            int[] a = new int[4];
            String call;
            Call got;
            Call want;
            if (kind < 6) {
                a = new int[] {within(1, heavy), within(weak, 60), within(young, 200), 0};
                int[] b = a;
                call = "conjure";
                got = () -> (long) x.conjure(b[0], b[1], b[2]);
                want = () -> m.conjure(b[0], b[1], b[2]);
            } else if (kind < 24) {
                a = new int[] {within(1, heavy), within(weak, 60), within(0, n), below(3) == 0 ? -1 : within(0, n)};
                int[] b = a;
                call = "hang";
                got = () -> (long) x.hang(b[0], b[1], b[2], b[3]);
                want = () -> m.hang(b[0], b[1], b[2], b[3]);
            } else if (kind < 38) {
                a = new int[] {within(0, n), within(0, 60) / (1 + below(6)), 0, 0};
                int[] b = a;
                call = "prop";
                got = () -> (long) x.prop(b[0], b[1]);
                want = () -> m.prop(b[0], b[1]);
            } else if (kind < 46) {
                a = new int[] {within(0, n), within(1, 200), 0, 0};
                int[] b = a;
                call = "renew";
                got = () -> (long) x.renew(b[0], b[1]);
                want = () -> m.renew(b[0], b[1]);
            } else if (kind < 54) {
                a = new int[] {within(0, n), within(0, n), 0, 0};
                int[] b = a;
                call = "stair";
                got = () -> (long) x.stair(b[0], b[1]);
                want = () -> m.stair(b[0], b[1]);
            } else if (kind < 62) {
                a = new int[] {within(0, l), within(0, l), 0, 0};
                int[] b = a;
                call = "swap";
                got = () -> x.swap(b[0], b[1]) ? 1L : 0L;
                want = () -> m.swap(b[0], b[1]);
            } else if (kind < 70) {
                a = new int[] {within(0, n), within(0, n), 0, 0};
                int[] b = a;
                call = "steps";
                got = () -> (long) x.steps(b[0], b[1]);
                want = () -> m.steps(b[0], b[1]);
            } else if (kind < 73) {
                a = new int[] {within(0, n), 0, 0, 0};
                int[] b = a;
                call = "first";
                got = () -> (long) x.first(b[0]);
                want = () -> m.first(b[0]);
            } else if (kind < 78) {
                a = new int[] {within(1, 120) / slow, 0, 0, 0};
                int[] b = a;
                call = "pass";
                got = () -> (long) x.pass(b[0]);
                want = () -> m.pass(b[0]);
            } else if (kind < 83) {
                a = new int[] {within(0, n), 0, 0, 0};
                int[] b = a;
                call = "without";
                got = () -> (long) x.without(b[0]);
                want = () -> m.without(b[0]);
            } else if (kind < 86) {
                a = new int[] {within(0, n), 0, 0, 0};
                int[] b = a;
                call = "lasts";
                got = () -> (long) x.lasts(b[0]);
                want = () -> m.lasts(b[0]);
            } else if (kind < 90) {
                a = new int[] {within(1, 120), within(0, 2), 0, 0};
                int[] b = a;
                call = "foresee";
                got = () -> (long) x.foresee(b[0], b[1]);
                want = () -> m.foresee(b[0], b[1]);
            } else if (kind < 92) {
                a = new int[] {within(1, 60), within(1, 60), 0, 0};
                int[] b = a;
                call = "advise";
                got = () -> (long) x.advise(b[0], b[1]);
                want = () -> m.advise(b[0], b[1]);
            } else if (kind < 94) {
                a = new int[] {within(0, l), within(0, 2), 0, 0};
                int[] b = a;
                call = "joins";
                got = () -> (long) x.joins(b[0], b[1]);
                want = () -> m.joins(b[0], b[1]);
            } else if (kind < 96) {
                a = new int[] {within(0, n), within(0, 9), 0, 0};
                int[] b = a;
                call = "stone";
                got = () -> (long) x.stone(b[0], b[1]);
                want = () -> m.stone(b[0], b[1]);
            } else if (kind < 98) {
                a = new int[] {within(0, 7), 0, 0, 0};
                int[] b = a;
                call = "count";
                got = () -> (long) x.count(b[0]);
                want = () -> m.count(b[0]);
            } else {
                call = "mean";
                got = x::mean;
                want = m::mean;
            }
            Object wanted = answer(want);
            Object answered = answer(got);
            long told = x.digest();
            long due = m.digest();
            if (!wanted.equals(answered) || told != due) {
                wrong++;
                System.out.println("run " + number + ", call " + i + ": " + call + " of " + a[0] + ", " + a[1] + ", "
                        + a[2] + ", " + a[3] + " answered " + answered + ", due is " + wanted
                        + "; digest behind it " + told + ", due is " + due);
                return;
            }
        }
    }

    public static void main(String[] args) {
        for (int number = 0; number < RUNS; number++) {
            run(number);
        }
        System.out.println(wrong == 0 ? "all answers are as due" : wrong + " runs have a wrong answer");
        if (wrong != 0) {
            System.exit(1);
        }
    }
}
