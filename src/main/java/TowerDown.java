/** Wizards' towers that are built upside down: a sky of stones, props, stairs and fading spells. */
public final class TowerDown {
    private static final int MAX_STONES = 40;
    private static final int MAX_STAIRS = 30;
    private static final int MAX_WEIGHT = 20;
    private static final int MAX_STRENGTH = 60;
    private static final int MAX_POWER = 200;
    private static final int MAX_PROP = 60;
    private static final int MAX_DAYS = 120;
    private static final int MAX_DAYS_OF_ADVICE = 60;
    private static final int FADED_IN_A_DAY = 2;
    private static final int NONE = -1;

    private static final int STONE_FACTS = 10;
    private static final int STAIR_FACTS = 3;
    private static final int SKY_FACTS = 8;
    private static final int FORESEEN_FACTS = 3;

    // Each round but the last one breaks one of at most 80 holds and spells: the bound is never met.
    private static final int MAX_ROUNDS = 1000;

    private final Stones sky;
    // What would be is tried on this one copy, made once, so that no call makes objects.
    private final Stones trial;
    private final Stairs stairs;

    public TowerDown() {
        sky = new Stones();
        trial = new Stones();
        stairs = new Stairs();
    }

    // ---- stones

    public int conjure(int weight, int strength, int power)
            throws IllegalArgumentException, IllegalStateException {
        if (!isBody(weight, strength) || !isWithin(power, 1, MAX_POWER)) {
            throw new IllegalArgumentException("no such weight, strength or power");
        }
        if (sky.isFull()) {
            throw new IllegalStateException("no more stones");
        }
        int stone = sky.addBySpell(weight, strength, power);
        sky.giveWay();
        return stone;
    }

    public int hang(int weight, int strength, int from, int other)
            throws IllegalArgumentException, IndexOutOfBoundsException, IllegalStateException {
        if (!isBody(weight, strength) || from == other) {
            throw new IllegalArgumentException("no such weight or strength, or both stones are the same");
        }
        if (!sky.has(from) || (other != NONE && !sky.has(other))) {
            throw new IndexOutOfBoundsException("no such stone");
        }
        if (sky.isFull() || !sky.isHanging(from) || (other != NONE && !sky.isHanging(other))) {
            throw new IllegalStateException("no more stones, or one of them has fallen");
        }
        int stone = sky.addByHolds(weight, strength, from, other);
        sky.giveWay();
        return stone;
    }

    public int prop(int stone, int prop)
            throws IndexOutOfBoundsException, IllegalArgumentException, IllegalStateException {
        if (!sky.has(stone)) {
            throw new IndexOutOfBoundsException("no such stone");
        }
        if (!isWithin(prop, 0, MAX_PROP)) {
            throw new IllegalArgumentException("no such prop");
        }
        if (!sky.isHanging(stone)) {
            throw new IllegalStateException("it has fallen");
        }
        int before = sky.hanging;
        sky.setProp(stone, prop);
        sky.giveWay();
        return before - sky.hanging;
    }

    public int renew(int stone, int power)
            throws IndexOutOfBoundsException, IllegalArgumentException, IllegalStateException {
        if (!sky.has(stone)) {
            throw new IndexOutOfBoundsException("no such stone");
        }
        if (!isWithin(power, 1, MAX_POWER)) {
            throw new IllegalArgumentException("no such power");
        }
        if (!sky.hasSpell(stone) || power < sky.load[stone]) {
            throw new IllegalStateException("it does not hang by a spell, or the power is less than its load");
        }
        int before = sky.power[stone];
        sky.power[stone] = power;
        return before;
    }

    // ---- stairs

    public int stair(int a, int b)
            throws IndexOutOfBoundsException, IllegalArgumentException, IllegalStateException {
        if (!sky.has(a) || !sky.has(b)) {
            throw new IndexOutOfBoundsException("no such stone");
        }
        if (a == b) {
            throw new IllegalArgumentException("both are the same");
        }
        if (stairs.isFull() || !sky.isHanging(a) || !sky.isHanging(b)) {
            throw new IllegalStateException("no more stairs, or one of them has fallen");
        }
        return stairs.add(a, b);
    }

    public boolean swap(int one, int other)
            throws IndexOutOfBoundsException, IllegalArgumentException, IllegalStateException {
        if (!stairs.has(one) || !stairs.has(other)) {
            throw new IndexOutOfBoundsException("no such stair");
        }
        if (one == other) {
            throw new IllegalArgumentException("both are the same");
        }
        if (stairs.isGone(one, sky) || stairs.isGone(other, sky)) {
            throw new IllegalStateException("one of them is gone");
        }
        return stairs.exchangeEnds(one, other);
    }

    public int joins(int stair, int what) throws IndexOutOfBoundsException {
        if (!stairs.has(stair) || !isWithin(what, 0, STAIR_FACTS - 1)) {
            throw new IndexOutOfBoundsException("no such stair, or nothing to tell");
        }
        return stairs.tell(stair, what, sky);
    }

    public int steps(int from, int to) throws IndexOutOfBoundsException {
        if (!sky.has(from) || !sky.has(to)) {
            throw new IndexOutOfBoundsException("no such stone");
        }
        if (!sky.isHanging(from) || !sky.isHanging(to)) {
            return NONE;
        }
        return stairs.fewestSteps(from, to, sky);
    }

    // ---- what is there

    public int stone(int stone, int what) throws IndexOutOfBoundsException {
        if (!sky.has(stone) || !isWithin(what, 0, STONE_FACTS - 1)) {
            throw new IndexOutOfBoundsException("no such stone, or nothing to tell");
        }
        return sky.tell(stone, what);
    }

    public int first(int stone) throws IndexOutOfBoundsException {
        if (!sky.has(stone)) {
            throw new IndexOutOfBoundsException("no such stone");
        }
        return sky.topOf(stone);
    }

    public int count(int what) throws IndexOutOfBoundsException {
        if (!isWithin(what, 0, SKY_FACTS - 1)) {
            throw new IndexOutOfBoundsException("nothing to tell");
        }
        return tellSky(what);
    }

    // ---- days

    public int pass(int days) throws IllegalArgumentException {
        if (!isWithin(days, 1, MAX_DAYS)) {
            throw new IllegalArgumentException("no such days");
        }
        int before = sky.hanging;
        sky.liveDays(days);
        return before - sky.hanging;
    }

    // ---- what would be

    public int without(int stone) throws IndexOutOfBoundsException {
        if (!sky.has(stone)) {
            throw new IndexOutOfBoundsException("no such stone");
        }
        if (!sky.isHanging(stone)) {
            return 0;
        }
        trial.copyFrom(sky);
        trial.cutLoose(stone);
        return sky.hanging - trial.hanging;
    }

    public int lasts(int stone) throws IndexOutOfBoundsException {
        if (!sky.has(stone)) {
            throw new IndexOutOfBoundsException("no such stone");
        }
        trial.copyFrom(sky);
        for (int days = 0; days <= MAX_DAYS; days++) {
            if (!trial.isHanging(stone)) {
                return days;
            }
            trial.liveDay();
        }
        return NONE;
    }

    public int foresee(int days, int what) throws IllegalArgumentException, IndexOutOfBoundsException {
        if (!isWithin(days, 1, MAX_DAYS)) {
            throw new IllegalArgumentException("no such days");
        }
        if (!isWithin(what, 0, FORESEEN_FACTS - 1)) {
            throw new IndexOutOfBoundsException("nothing to tell");
        }
        trial.copyFrom(sky);
        trial.liveDays(days);
        switch (what) {
            case 0: return trial.hanging;
            case 1: return stairs.countLeft(trial);
            default: return trial.sumOfPowers();
        }
    }

    public int advise(int more, int days) throws IllegalArgumentException {
        if (!isWithin(more, 1, MAX_PROP) || !isWithin(days, 1, MAX_DAYS_OF_ADVICE)) {
            throw new IllegalArgumentException("no such prop or days");
        }
        trial.copyFrom(sky);
        trial.liveDays(days);
        int most = trial.hanging;
        int best = NONE;
        for (int stone = 0; stone < sky.hung; stone++) {
            // A fallen stone has no prop to change, and one of 60 stays as it is: neither saves any.
            if (sky.isHanging(stone) && sky.prop[stone] < MAX_PROP) {
                int left = leftWith(stone, Math.min(MAX_PROP, sky.prop[stone] + more), days);
                if (left > most) {
                    most = left;
                    best = stone;
                }
            }
        }
        return best;
    }

    public double mean() {
        if (sky.hanging <= 0) {
            return 0.0;
        }
        return (double) sky.sumOfLoads() / sky.hanging;
    }

    public long digest() {
        long d = 971;
        for (int what = 0; what < SKY_FACTS; what++) {
            d = d * 31 + tellSky(what);
        }
        for (int stone = 0; stone < sky.hung; stone++) {
            for (int what = 0; what < STONE_FACTS; what++) {
                d = d * 31 + sky.tell(stone, what);
            }
        }
        for (int stair = 0; stair < stairs.built; stair++) {
            for (int what = 0; what < STAIR_FACTS; what++) {
                d = d * 31 + stairs.tell(stair, what, sky);
            }
        }
        return d;
    }

    // ---- helpers of the face

    private static boolean isWithin(int number, int least, int most) {
        return number >= least && number <= most;
    }

    private static boolean isBody(int weight, int strength) {
        return isWithin(weight, 1, MAX_WEIGHT) && isWithin(strength, 1, MAX_STRENGTH);
    }

    private int tellSky(int what) {
        switch (what) {
            case 0: return sky.day;
            case 1: return sky.hung;
            case 2: return sky.hanging;
            case 3: return sky.countSpells();
            case 4: return stairs.countLeft(sky);
            case 5: return sky.sumOfPowers();
            case 6: return sky.sumOfProps();
            default: return sky.sumOfSpelledLoads();
        }
    }

    private int leftWith(int stone, int prop, int days) {
        trial.copyFrom(sky);
        trial.setProp(stone, prop);
        trial.giveWay();
        trial.liveDays(days);
        return trial.hanging;
    }

    /** All stones of one sky, with their spells, holds and props, and its day. */
    private static final class Stones {
        private final int[] weight = new int[MAX_STONES];
        private final int[] strength = new int[MAX_STONES];
        private final int[] prop = new int[MAX_STONES];
        // 0 without a spell
        private final int[] power = new int[MAX_STONES];
        // NONE without that hold; who has one hold alone has it as the first one
        private final int[] firstHold = new int[MAX_STONES];
        private final int[] secondHold = new int[MAX_STONES];
        private final boolean[] hangs = new boolean[MAX_STONES];
        private final int[] load = new int[MAX_STONES];
        private final int[] pull = new int[MAX_STONES];
        private int hung;
        private int hanging;
        private int day;
        // Whether a stone, a hold, a spell or a prop changed since the loads were measured.
        private boolean stale;

        boolean has(int stone) {
            return stone >= 0 && stone < hung;
        }

        boolean isFull() {
            return hung >= MAX_STONES;
        }

        boolean isHanging(int stone) {
            return has(stone) && hangs[stone];
        }

        boolean hasSpell(int stone) {
            return has(stone) && power[stone] > 0;
        }

        int addBySpell(int ownWeight, int ownStrength, int ownPower) {
            int stone = addByHolds(ownWeight, ownStrength, NONE, NONE);
            if (has(stone)) {
                power[stone] = ownPower;
            }
            return stone;
        }

        int addByHolds(int ownWeight, int ownStrength, int from, int other) {
            if (isFull()) {
                return NONE;
            }
            int stone = hung;
            weight[stone] = ownWeight;
            strength[stone] = ownStrength;
            firstHold[stone] = from;
            secondHold[stone] = other;
            hangs[stone] = true;
            hung++;
            hanging++;
            stale = true;
            return stone;
        }

        void setProp(int stone, int ownProp) {
            if (has(stone)) {
                prop[stone] = ownProp;
                stale = true;
            }
        }

        void copyFrom(Stones other) {
            for (int i = 0; i < other.hung; i++) {
                weight[i] = other.weight[i];
                strength[i] = other.strength[i];
                prop[i] = other.prop[i];
                power[i] = other.power[i];
                firstHold[i] = other.firstHold[i];
                secondHold[i] = other.secondHold[i];
                hangs[i] = other.hangs[i];
                load[i] = other.load[i];
                pull[i] = other.pull[i];
            }
            hung = other.hung;
            hanging = other.hanging;
            day = other.day;
            stale = other.stale;
        }

        // ---- giving way

        void giveWay() {
            boolean again = true;
            for (int round = 0; again && round < MAX_ROUNDS; round++) {
                if (stale) {
                    measure();
                }
                tearOverpulled();
                endOverloaded();
                again = stale;
                if (again) {
                    dropLoose();
                }
            }
        }

        /** Holds come from earlier stones only: from the last stone on, each pull is whole when it is used. */
        private void measure() {
            for (int i = 0; i < hung; i++) {
                pull[i] = 0;
            }
            for (int i = hung - 1; i >= 0; i--) {
                load[i] = hangs[i] ? Math.max(0, weight[i] + pull[i] - prop[i]) : 0;
                if (secondHold[i] == NONE) {
                    bear(firstHold[i], load[i]);
                } else {
                    bear(firstHold[i], (load[i] + 1) / 2);
                    bear(secondHold[i], load[i] / 2);
                }
            }
            stale = false;
        }

        private void bear(int stone, int share) {
            if (stone >= 0 && stone < hung) {
                pull[stone] += share;
            }
        }

        private void tearOverpulled() {
            for (int i = 0; i < hung; i++) {
                if (pull[i] > strength[i]) {
                    tearHoldsFrom(i);
                }
            }
        }

        private void endOverloaded() {
            for (int i = 0; i < hung; i++) {
                if (power[i] > 0 && power[i] < load[i]) {
                    endSpell(i);
                }
            }
        }

        private void endSpell(int stone) {
            if (stone >= 0 && stone < hung) {
                power[stone] = 0;
                stale = true;
            }
        }

        private void tearHoldsFrom(int stone) {
            for (int i = 0; i < hung; i++) {
                if (firstHold[i] == stone) {
                    firstHold[i] = secondHold[i];
                    secondHold[i] = NONE;
                    stale = true;
                } else if (secondHold[i] == stone) {
                    secondHold[i] = NONE;
                    stale = true;
                }
            }
        }

        /** By numbers: what hangs from a stone that falls comes later, so one run finds them all. */
        private void dropLoose() {
            for (int i = 0; i < hung; i++) {
                if (hangs[i] && power[i] <= 0 && firstHold[i] == NONE) {
                    hangs[i] = false;
                    hanging--;
                    stale = true;
                    tearHoldsFrom(i);
                }
            }
        }

        void cutLoose(int stone) {
            if (!has(stone)) {
                return;
            }
            endSpell(stone);
            firstHold[stone] = NONE;
            secondHold[stone] = NONE;
            dropLoose();
            giveWay();
        }

        // ---- days

        void liveDays(int days) {
            for (int i = 0; i < days && i < MAX_DAYS; i++) {
                liveDay();
            }
        }

        void liveDay() {
            fade();
            if (stale) {
                dropLoose();
            }
            giveWay();
            day++;
        }

        private void fade() {
            for (int i = 0; i < hung; i++) {
                if (power[i] > FADED_IN_A_DAY) {
                    power[i] -= FADED_IN_A_DAY;
                } else if (power[i] > 0) {
                    endSpell(i);
                }
            }
        }

        // ---- what is told

        int tell(int stone, int what) {
            if (!has(stone)) {
                return 0;
            }
            switch (what) {
                case 0: return weight[stone];
                case 1: return strength[stone];
                case 2: return hangs[stone] ? 1 : 0;
                case 3: return power[stone];
                case 4: return firstHold[stone];
                case 5: return secondHold[stone];
                case 6: return prop[stone];
                case 7: return load[stone];
                case 8: return pull[stone];
                default: return countHeldBy(stone);
            }
        }

        private int countHeldBy(int stone) {
            int held = 0;
            for (int i = 0; i < hung; i++) {
                if (firstHold[i] == stone || secondHold[i] == stone) {
                    held++;
                }
            }
            return held;
        }

        /** A fallen stone has neither a spell nor a hold, so that the way up ends at NONE. */
        int topOf(int stone) {
            int at = stone;
            for (int up = 0; has(at) && up < MAX_STONES; up++) {
                if (power[at] > 0) {
                    return at;
                }
                at = firstHold[at];
            }
            return NONE;
        }

        int countSpells() {
            int spells = 0;
            for (int i = 0; i < hung; i++) {
                spells += power[i] > 0 ? 1 : 0;
            }
            return spells;
        }

        int sumOfPowers() {
            int sum = 0;
            for (int i = 0; i < hung; i++) {
                sum += power[i];
            }
            return sum;
        }

        int sumOfProps() {
            int sum = 0;
            for (int i = 0; i < hung; i++) {
                sum += hangs[i] ? prop[i] : 0;
            }
            return sum;
        }

        int sumOfLoads() {
            int sum = 0;
            for (int i = 0; i < hung; i++) {
                sum += load[i];
            }
            return sum;
        }

        int sumOfSpelledLoads() {
            int sum = 0;
            for (int i = 0; i < hung; i++) {
                sum += power[i] > 0 ? load[i] : 0;
            }
            return sum;
        }
    }

    /** All stairs. One is gone when one of its stones has fallen: stones fall for good, so nothing more is kept. */
    private static final class Stairs {
        private final int[] firstEnd = new int[MAX_STAIRS];
        private final int[] secondEnd = new int[MAX_STAIRS];
        private final int[] distance = new int[MAX_STONES];
        private int built;

        boolean has(int stair) {
            return stair >= 0 && stair < built;
        }

        boolean isFull() {
            return built >= MAX_STAIRS;
        }

        boolean isGone(int stair, Stones stones) {
            return !has(stair) || !stones.isHanging(firstEnd[stair]) || !stones.isHanging(secondEnd[stair]);
        }

        int add(int a, int b) {
            if (isFull()) {
                return NONE;
            }
            int stair = built;
            firstEnd[stair] = a;
            secondEnd[stair] = b;
            built++;
            return stair;
        }

        boolean exchangeEnds(int one, int other) {
            if (!has(one) || !has(other)
                    || firstEnd[one] == secondEnd[other] || firstEnd[other] == secondEnd[one]) {
                return false;
            }
            int kept = secondEnd[one];
            secondEnd[one] = secondEnd[other];
            secondEnd[other] = kept;
            return true;
        }

        int tell(int stair, int what, Stones stones) {
            if (!has(stair)) {
                return 0;
            }
            switch (what) {
                case 0: return firstEnd[stair];
                case 1: return secondEnd[stair];
                default: return isGone(stair, stones) ? 1 : 0;
            }
        }

        int countLeft(Stones stones) {
            int left = 0;
            for (int stair = 0; stair < built; stair++) {
                left += isGone(stair, stones) ? 0 : 1;
            }
            return left;
        }

        int fewestSteps(int from, int to, Stones stones) {
            if (!stones.has(from) || !stones.has(to)) {
                return NONE;
            }
            for (int i = 0; i < MAX_STONES; i++) {
                distance[i] = NONE;
            }
            distance[from] = 0;
            boolean farther = true;
            for (int done = 0; farther && distance[to] == NONE && done < MAX_STONES; done++) {
                farther = reachFrom(done, stones);
            }
            return distance[to];
        }

        /** Marks what is one step farther than so many steps; tells whether there was any. */
        private boolean reachFrom(int done, Stones stones) {
            boolean reached = false;
            for (int stair = 0; stair < built; stair++) {
                if (!isGone(stair, stones)
                        && (stepOver(firstEnd[stair], secondEnd[stair], done)
                        || stepOver(secondEnd[stair], firstEnd[stair], done))) {
                    reached = true;
                }
            }
            return reached;
        }

        private boolean stepOver(int from, int to, int done) {
            if (!isPlace(from) || !isPlace(to) || distance[from] != done || distance[to] != NONE) {
                return false;
            }
            distance[to] = done + 1;
            return true;
        }

        private static boolean isPlace(int stone) {
            return stone >= 0 && stone < MAX_STONES;
        }
    }
}
