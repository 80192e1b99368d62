/** Each sentence of promises 1 to 19 that names a boundary case, with a test of its own. */
public final class BoundaryTests {
    private static void promise1() {
        Sky.sentence("1: Creates a sky without stones, on the day 0.", () -> {
            Sky x = new Sky().counts(0, 0, 0, 0, 0, 0, 0, 0).due(0.0, "mean").due(-1, "advise", 60, 60);
            x.due(0, "foresee", 1, 0).due(0, "foresee", 120, 1).due(0, "foresee", 1, 2);
            x.refused(Sky.INDEX, "hang", 1, 1, 0, -1).refused(Sky.INDEX, "prop", 0, 1);
            x.refused(Sky.INDEX, "renew", 0, 1).refused(Sky.INDEX, "stair", 0, 1).refused(Sky.INDEX, "swap", 0, 1);
            x.refused(Sky.INDEX, "joins", 0, 0);
            x.refused(Sky.INDEX, "steps", 0, 0).refused(Sky.INDEX, "stone", 0, 0).refused(Sky.INDEX, "first", 0);
            x.refused(Sky.INDEX, "without", 0).refused(Sky.INDEX, "lasts", 0);
            x.due(0, "pass", 120).due(120, "count", 0);
            // One sky knows nothing of another.
            new Sky().due(0, "count", 0).due(0, "conjure", 1, 1, 1).due(0, "count", 4);
        });
    }

    private static void promise2() {
        Sky.sentence("2: Returns its number.", () -> {
            // The number of one that does not even stay is its own, too.
            Sky x = new Sky().due(0, "conjure", 20, 1, 1).due(1, "conjure", 1, 1, 1);
            x.hung(1, 1, 1, 1, -1).due(3, "conjure", 1, 1, 1);
            Sky.strong(39).due(39, "conjure", 1, 1, 1);
        });
        Sky.sentence("2: Throws `IllegalArgumentException` if weight is not 1 to 20, strength is not 1 to 60, "
                + "or power is not 1 to 200", () -> {
            Sky.range(Sky::new, Sky.ARGUMENT, 0, 1, 20, "conjure", 7, 8, 9);
            Sky.range(Sky::new, Sky.ARGUMENT, 1, 1, 60, "conjure", 7, 8, 9);
            Sky.range(Sky::new, Sky.ARGUMENT, 2, 1, 200, "conjure", 7, 8, 9);
            Sky.range(() -> Sky.strong(39), Sky.ARGUMENT, 2, 1, 200, "conjure", 7, 8, 9);
        });
        Sky.sentence("2: Throws `IllegalStateException` if there are 40", () -> {
            Sky.strong(39).due(39, "conjure", 1, 1, 1).refused(Sky.STATE, "conjure", 1, 1, 1);
            Sky.strong(1).hung(39, 1, 1, 0, -1).refused(Sky.STATE, "conjure", 1, 1, 1);
            Sky.strong(40).due(40, "pass", 120).refused(Sky.STATE, "conjure", 20, 60, 200);
        });
    }

    private static void promise3() {
        Sky.sentence("3: that of its second hold; -1 without one", () -> {
            Sky.strong(1).due(1, "hang", 2, 3, 0, -1).facts(1, 2, 3, 1, 0, 0, -1, 0, 2, 0, 0);
            Sky.strong(2).due(2, "hang", 2, 3, 1, 0).facts(2, 2, 3, 1, 0, 1, 0, 0, 2, 0, 0);
        });
        Sky.sentence("3: Returns its number.", () -> {
            Sky x = new Sky().conjured(1, 1, 1, 200).due(1, "hang", 1, 1, 0, -1).due(2, "hang", 1, 1, 0, -1);
            x.hanging(0).due(3, "hang", 1, 1, 0, -1);
            Sky.strong(39).due(39, "hang", 1, 1, 38, 0);
        });
        Sky.sentence("3: Throws `IllegalArgumentException` if weight is not 1 to 20, strength is not 1 to 60, "
                + "or both stones are the same (also both -1)", () -> {
            Sky.range(() -> Sky.strong(1), Sky.ARGUMENT, 0, 1, 20, "hang", 7, 8, 0, -1);
            Sky.range(() -> Sky.strong(1), Sky.ARGUMENT, 1, 1, 60, "hang", 7, 8, 0, -1);
            Sky x = Sky.strong(2);
            for (int same : new int[] {0, 1, -1, 2, 40, -2, Sky.MIN, Sky.MAX}) {
                x.refused(Sky.ARGUMENT, "hang", 1, 1, same, same);
            }
        });
        Sky.sentence("3: Throws `IndexOutOfBoundsException` if there is no such stone, or no such other one, "
                + "and it is not -1", () -> {
            Sky.range(() -> Sky.strong(3), Sky.INDEX, 2, 0, 2, "hang", 1, 1, 9, 1);
            Sky.range(() -> Sky.strong(39), Sky.INDEX, 2, 0, 38, "hang", 1, 1, 9, 1);
            Sky x = Sky.strong(3).due(3, "hang", 1, 1, 1, 0).due(4, "hang", 1, 1, 1, 3).due(5, "hang", 1, 1, 0, -1);
            for (int none : new int[] {6, 7, 39, 40, -2, Sky.MIN, Sky.MAX}) {
                x.refused(Sky.INDEX, "hang", 1, 1, 0, none).refused(Sky.INDEX, "hang", 1, 1, none, 0);
                x.refused(Sky.INDEX, "hang", 1, 1, none, -1);
            }
            x.refused(Sky.INDEX, "hang", 1, 1, -1, 0).refused(Sky.INDEX, "hang", 1, 1, -1, 6);
        });
        Sky.sentence("3: Throws `IllegalStateException` if there are 40, or one of them has fallen", () -> {
            Sky full = Sky.strong(39).due(39, "hang", 1, 1, 0, 1);
            full.refused(Sky.STATE, "hang", 1, 1, 0, -1).refused(Sky.STATE, "hang", 1, 1, 38, 39);
            Sky x = Sky.strong(1).conjured(2, 2, 1, 1);
            x.refused(Sky.STATE, "hang", 1, 1, 1, -1).refused(Sky.STATE, "hang", 1, 1, 1, 0);
            x.refused(Sky.STATE, "hang", 1, 1, 0, 1).refused(Sky.STATE, "hang", 1, 1, 2, 1);
            x.due(3, "hang", 1, 1, 0, -1);
        });
    }

    private static void promise4() {
        Sky.sentence("4: its prop from now on", () -> {
            Sky x = Sky.small().due(0, "prop", 3, 3).due(3, "stone", 3, 6).due(0, "stone", 3, 7);
            x.due(0, "pass", 3).due(3, "stone", 3, 6).due(0, "prop", 3, 0).due(3, "stone", 3, 7);
            x.due(0, "prop", 3, 1).due(0, "prop", 3, 1).due(1, "stone", 3, 6).due(2, "stone", 3, 7);
        });
        Sky.sentence("4: Returns how many stones fall by it.", () -> {
            Sky x = new Sky().conjured(1, 20, 60, 30).due(0, "prop", 0, 60).hung(39, 1, 60, 0, -1);
            x.due(0, "prop", 0, 30).due(0, "prop", 0, 29).due(30, "stone", 0, 7);
            x.due(40, "prop", 0, 28).due(0, "count", 2);
            // Those that have fallen ahead of it are not told again.
            Sky y = Sky.strong(1).conjured(3, 2, 1, 1).conjured(1, 10, 60, 9).hanging(0);
            y.conjured(1, 10, 60, 10).due(0, "prop", 5, 2).due(0, "pass", 1).due(1, "prop", 5, 1).hanging(0);
        });
        Sky.sentence("4: Throws `IndexOutOfBoundsException` if there is no such stone", () -> {
            Sky.range(() -> Sky.strong(3), Sky.INDEX, 0, 0, 2, "prop", 9, 1);
            Sky.range(() -> Sky.strong(40), Sky.INDEX, 0, 0, 39, "prop", 9, 1);
        });
        Sky.sentence("4: Throws `IllegalArgumentException` if prop is not 0 to 60", () ->
                Sky.range(() -> Sky.strong(3), Sky.ARGUMENT, 1, 0, 60, "prop", 2, 9));
        Sky.sentence("4: Throws `IllegalStateException` if it has fallen", () -> {
            Sky x = Sky.small().refused(Sky.STATE, "prop", 4, 0).refused(Sky.STATE, "prop", 4, 60);
            x.due(4, "pass", 22).refused(Sky.STATE, "prop", 0, 1).refused(Sky.STATE, "prop", 3, 1);
        });
    }

    private static void promise5() {
        Sky.sentence("5: the power from now on", () -> {
            Sky x = Sky.strong(1).due(200, "renew", 0, 1).due(1, "stone", 0, 3).due(1, "renew", 0, 200);
            x.due(200, "stone", 0, 3).due(0, "pass", 1).due(198, "stone", 0, 3);
        });
        Sky.sentence("5: Returns the power before.", () -> {
            Sky x = Sky.strong(1).due(0, "pass", 99).due(2, "renew", 0, 3).due(3, "renew", 0, 3);
            x.due(0, "pass", 1).due(1, "renew", 0, 200).due(200, "renew", 0, 200);
        });
        Sky.sentence("5: Throws `IndexOutOfBoundsException` if there is no such stone", () -> {
            Sky.range(() -> Sky.strong(3), Sky.INDEX, 0, 0, 2, "renew", 9, 9);
            Sky.range(() -> Sky.strong(40), Sky.INDEX, 0, 0, 39, "renew", 9, 9);
        });
        Sky.sentence("5: Throws `IllegalArgumentException` if power is not 1 to 200", () -> {
            Sky.range(() -> Sky.strong(3), Sky.ARGUMENT, 1, 1, 200, "renew", 2, 9);
            // Also 0 for a load of 0.
            Sky.strong(1).due(0, "prop", 0, 60).refused(Sky.ARGUMENT, "renew", 0, 0).due(200, "renew", 0, 1);
        });
        Sky.sentence("5: Throws `IllegalStateException` if it does not hang by a spell, "
                + "or power is less than its load", () -> {
            Sky x = Sky.small().refused(Sky.STATE, "renew", 0, 17).due(60, "renew", 0, 18).hanging(0, 1, 2, 3);
            x.refused(Sky.STATE, "renew", 0, 1).refused(Sky.STATE, "renew", 1, 200).refused(Sky.STATE, "renew", 3, 200);
            x.refused(Sky.STATE, "renew", 4, 200).refused(Sky.STATE, "renew", 4, 1);
            // Its load as it is now, not what it was and not its weight.
            x.due(0, "prop", 0, 17).due(18, "renew", 0, 1).due(0, "prop", 3, 3);
            x.due(1, "renew", 0, 1).due(4, "pass", 1).refused(Sky.STATE, "renew", 0, 200);
        });
    }

    private static void promise6() {
        Sky.sentence("6: Returns the number of a new stair that joins both.", () -> {
            Sky x = Sky.strong(40).due(0, "stair", 0, 39).due(1, "stair", 39, 0).due(2, "stair", 0, 39);
            x.ends(0, 0, 39, 0).ends(1, 39, 0, 0).ends(2, 0, 39, 0).due(3, "count", 4);
        });
        Sky.sentence("6: Throws `IndexOutOfBoundsException` if there is no such stone", () -> {
            Sky.range(() -> Sky.strong(3), Sky.INDEX, 0, 0, 2, "stair", 9, 1);
            Sky.range(() -> Sky.strong(3), Sky.INDEX, 1, 0, 2, "stair", 1, 9);
            Sky.range(() -> Sky.strong(40), Sky.INDEX, 0, 0, 39, "stair", 9, 1);
            Sky.range(() -> Sky.strong(40), Sky.INDEX, 1, 0, 39, "stair", 1, 9);
        });
        Sky.sentence("6: Throws `IllegalArgumentException` if both are the same", () -> {
            Sky.strong(40).refused(Sky.ARGUMENT, "stair", 0, 0).refused(Sky.ARGUMENT, "stair", 39, 39);
            Sky.small().refused(Sky.ARGUMENT, "stair", 4, 4);
        });
        Sky.sentence("6: Throws `IllegalStateException` if there are 30, or one of them has fallen", () -> {
            Sky.strong(2).joined(29, 0, 1).due(29, "stair", 0, 1).refused(Sky.STATE, "stair", 0, 1);
            Sky x = Sky.small().refused(Sky.STATE, "stair", 0, 4).refused(Sky.STATE, "stair", 4, 0);
            x.conjured(1, 9, 1, 1).refused(Sky.STATE, "stair", 4, 5).due(0, "stair", 0, 3);
        });
    }

    private static void promise7() {
        Sky.sentence("7: Swaps the second ends of two stairs.", () -> {
            Sky x = Sky.strong(4).joined(1, 0, 1).joined(1, 2, 3).due(true, "swap", 0, 1);
            x.ends(0, 0, 3, 0).ends(1, 2, 1, 0).due(true, "swap", 1, 0).ends(0, 0, 1, 0).ends(1, 2, 3, 0);
        });
        Sky.sentence("7: Returns whether it is done: not, if one of them would join a stone with itself.", () -> {
            Sky x = Sky.strong(4).joined(1, 0, 1).joined(1, 2, 0).joined(1, 1, 0).joined(1, 0, 1).joined(1, 2, 3);
            // The one alone, the other one alone, both, none with the same ends.
            x.told(false, "swap", 0, 1).told(false, "swap", 1, 0).told(false, "swap", 0, 2).told(false, "swap", 2, 0);
            x.told(true, "swap", 0, 3).due(true, "swap", 0, 4).ends(0, 0, 3, 0).ends(4, 2, 1, 0);
            x.due(false, "swap", 2, 4).due(true, "swap", 1, 2);
        });
        Sky.sentence("7: Throws `IndexOutOfBoundsException` if there is no such stair", () -> {
            Sky.range(() -> Sky.strong(2).joined(3, 0, 1), Sky.INDEX, 0, 0, 2, "swap", 9, 1);
            Sky.range(() -> Sky.strong(2).joined(3, 0, 1), Sky.INDEX, 1, 0, 2, "swap", 1, 9);
            Sky.range(() -> Sky.strong(2).joined(30, 0, 1), Sky.INDEX, 0, 0, 29, "swap", 9, 1);
            Sky.range(() -> Sky.strong(2).joined(30, 0, 1), Sky.INDEX, 1, 0, 29, "swap", 1, 9);
        });
        Sky.sentence("7: Throws `IllegalArgumentException` if both are the same", () -> {
            Sky x = Sky.strong(2).joined(30, 0, 1);
            x.refused(Sky.ARGUMENT, "swap", 0, 0).refused(Sky.ARGUMENT, "swap", 29, 29);
        });
        Sky.sentence("7: Throws `IllegalStateException` if one of them is gone", () -> {
            Sky x = Sky.strong(2).conjured(1, 1, 1, 1).joined(1, 0, 1).joined(1, 0, 2).joined(1, 2, 0);
            x.joined(1, 1, 0).due(true, "swap", 1, 0).due(true, "swap", 0, 1).due(1, "pass", 1);
            x.refused(Sky.STATE, "swap", 0, 1).refused(Sky.STATE, "swap", 1, 0).refused(Sky.STATE, "swap", 0, 2);
            // Also where one of them would join a stone with itself.
            x.refused(Sky.STATE, "swap", 2, 0).refused(Sky.STATE, "swap", 1, 2).refused(Sky.STATE, "swap", 3, 1);
            x.due(false, "swap", 0, 3);
        });
    }

    private static void promise8() {
        Sky.sentence("8: 2 1 if it is gone, else 0", () -> {
            Sky x = Sky.strong(1).conjured(1, 1, 1, 3).joined(1, 0, 1).joined(1, 1, 0);
            x.ends(0, 0, 1, 0).ends(1, 1, 0, 0);
            x.due(0, "pass", 1).ends(0, 0, 1, 0).due(1, "pass", 1).ends(0, 0, 1, 1).ends(1, 1, 0, 1);
            Sky y = Sky.strong(40).joined(30, 38, 39).ends(29, 38, 39, 0).due(40, "pass", 100).ends(29, 38, 39, 1);
            y.ends(0, 38, 39, 1);
        });
        Sky.sentence("8: Throws `IndexOutOfBoundsException` if there is no such stair, or what is not 0 to 2", () -> {
            Sky.range(() -> Sky.strong(2).joined(3, 0, 1), Sky.INDEX, 0, 0, 2, "joins", 9, 1);
            Sky.range(() -> Sky.strong(2).joined(30, 0, 1), Sky.INDEX, 0, 0, 29, "joins", 9, 1);
            Sky.range(() -> Sky.strong(2).joined(3, 0, 1), Sky.INDEX, 1, 0, 2, "joins", 1, 9);
            Sky.strong(2).refused(Sky.INDEX, "joins", 0, 0);
        });
    }

    private static void promise9() {
        Sky.sentence("9: Returns the fewest steps along stairs from the one to the other one", () -> {
            Sky x = Sky.strong(40);
            for (int i = 30; i > 0; i--) {
                x.joined(1, i, i - 1);
            }
            x.told(30, "steps", 0, 30).told(30, "steps", 30, 0).told(1, "steps", 0, 1).told(29, "steps", 30, 1);
            x.told(0, "steps", 0, 0).told(0, "steps", 30, 30).told(0, "steps", 39, 39);
            // The last stair makes the way from end to end a shorter one.
            Sky y = Sky.strong(30);
            for (int i = 0; i < 29; i++) {
                y.joined(1, i, i + 1);
            }
            y.due(29, "steps", 0, 29).joined(1, 29, 0).due(1, "steps", 0, 29).due(15, "steps", 0, 15);
            y.due(14, "steps", 0, 16);
            // Stones 1 and 2 are as far as one another, and joined.
            Sky.strong(4).joined(1, 0, 1).joined(1, 0, 2).joined(1, 1, 2).joined(1, 2, 3).told(2, "steps", 0, 3)
                    .told(2, "steps", 3, 0).told(2, "steps", 1, 3);
        });
        Sky.sentence("9: -1 if there is no way, or one of them has fallen", () -> {
            Sky x = Sky.strong(2).conjured(1, 1, 1, 2).conjured(1, 2, 1, 1).joined(1, 0, 2).joined(1, 2, 1);
            x.due(2, "steps", 0, 1).due(0, "steps", 2, 2).told(-1, "steps", 3, 3).told(-1, "steps", 0, 3);
            x.due(1, "pass", 1).told(-1, "steps", 0, 1).told(-1, "steps", 0, 2).told(-1, "steps", 2, 0);
            x.told(-1, "steps", 2, 2).told(-1, "steps", 2, 3).told(0, "steps", 1, 1);
            x.joined(1, 1, 0).told(1, "steps", 0, 1);
            Sky.strong(40).told(-1, "steps", 0, 39);
        });
        Sky.sentence("9: Throws `IndexOutOfBoundsException` if there is no such stone", () -> {
            Sky.range(() -> Sky.strong(3), Sky.INDEX, 0, 0, 2, "steps", 9, 1);
            Sky.range(() -> Sky.strong(3), Sky.INDEX, 1, 0, 2, "steps", 1, 9);
            Sky.range(() -> Sky.strong(40), Sky.INDEX, 0, 0, 39, "steps", 9, 1);
            Sky.range(() -> Sky.strong(40), Sky.INDEX, 1, 0, 39, "steps", 1, 9);
            Sky.small().refused(Sky.INDEX, "steps", 4, 5).refused(Sky.INDEX, "steps", 5, 4);
            Sky.small().refused(Sky.INDEX, "steps", 5, 5).refused(Sky.INDEX, "steps", -1, -1);
        });
    }

    private static void promise10() {
        Sky.sentence("10: 2 1 if it hangs, 0 if it has fallen", () ->
                Sky.small().due(1, "stone", 0, 2).due(1, "stone", 3, 2).due(0, "stone", 4, 2).due(4, "pass", 22)
                        .due(0, "stone", 0, 2).due(0, "stone", 3, 2));
        Sky.sentence("10: 3 the power of its spell, 0 without one", () ->
                Sky.small().due(60, "stone", 0, 3).due(0, "stone", 1, 3).due(0, "stone", 4, 3).due(4, "pass", 22)
                        .due(0, "stone", 0, 3));
        Sky.sentence("10: (4 and 5: -1 without it; one that lost the first of two has its other one as the first one)",
                () -> {
            Sky x = Sky.small().due(-1, "stone", 0, 4).due(-1, "stone", 0, 5).due(0, "stone", 1, 4);
            x.due(-1, "stone", 1, 5).due(1, "stone", 3, 4).due(2, "stone", 3, 5);
            x.due(-1, "stone", 4, 4).due(-1, "stone", 4, 5);
            Sky y = new Sky().conjured(1, 1, 60, 10).conjured(1, 1, 60, 200).hung(1, 4, 60, 0, 1);
            y.due(1, "pass", 5).due(1, "stone", 2, 4).due(-1, "stone", 2, 5);
            Sky z = new Sky().conjured(1, 1, 60, 10).conjured(1, 1, 60, 200).hung(1, 4, 60, 1, 0);
            z.due(1, "pass", 5).due(1, "stone", 2, 4).due(-1, "stone", 2, 5);
            z.due(2, "pass", 120).due(-1, "stone", 2, 4).due(-1, "stone", 2, 5);
        });
        Sky.sentence("10: 6 its prop (or its latest one)", () -> {
            Sky x = new Sky().conjured(1, 9, 9, 9).due(0, "prop", 0, 60).due(0, "pass", 1).due(60, "stone", 0, 6);
            x.due(1, "pass", 4).due(60, "stone", 0, 6).due(0, "stone", 0, 2);
            // The latest one is that by which it fell.
            Sky y = new Sky().conjured(1, 9, 9, 9).due(0, "prop", 0, 3).due(0, "pass", 1).due(1, "prop", 0, 1);
            y.due(1, "stone", 0, 6);
        });
        Sky.sentence("10: (7 to 9: 0, if it has fallen)", () -> {
            Sky x = Sky.small().facts(0, 5, 30, 1, 60, -1, -1, 0, 18, 13, 2).facts(3, 3, 10, 1, 0, 1, 2, 0, 3, 0, 0);
            x.due(0, "prop", 1, 2).due(0, "stone", 4, 7).due(0, "stone", 4, 8).due(0, "stone", 4, 9);
            x.due(4, "pass", 120);
            x.facts(0, 5, 30, 0, 0, -1, -1, 0, 0, 0, 0).facts(1, 4, 20, 0, 0, -1, -1, 2, 0, 0, 0);
            x.facts(2, 6, 20, 0, 0, -1, -1, 0, 0, 0, 0).facts(3, 3, 10, 0, 0, -1, -1, 0, 0, 0, 0);
        });
        Sky.sentence("10: 9 stones with a hold from it", () -> {
            Sky.strong(1).hung(39, 1, 1, 0, -1).due(39, "stone", 0, 9).due(0, "stone", 39, 9);
            Sky.strong(2).hung(38, 1, 1, 0, 1).due(38, "stone", 0, 9).due(38, "stone", 1, 9).due(0, "stone", 2, 9);
            new Sky().conjured(5, 2, 1, 1).conjured(1, 1, 60, 200).hung(2, 1, 1, 5, -1).due(2, "stone", 5, 9);
        });
        Sky.sentence("10: Throws `IndexOutOfBoundsException` if there is no such stone, or what is not 0 to 9", () -> {
            Sky.range(() -> Sky.strong(3), Sky.INDEX, 0, 0, 2, "stone", 9, 1);
            Sky.range(() -> Sky.strong(40), Sky.INDEX, 0, 0, 39, "stone", 9, 1);
            Sky.range(() -> Sky.strong(3), Sky.INDEX, 1, 0, 9, "stone", 1, 4);
            Sky.range(Sky::small, Sky.INDEX, 1, 0, 9, "stone", 4, 4);
        });
    }

    private static void promise11() {
        Sky.sentence("11: along first holds up to one that hangs by a spell", () -> {
            Sky x = Sky.strong(1).told(0, "first", 0);
            for (int i = 1; i < 40; i++) {
                x.due(i, "hang", 1, 60, i - 1, -1);
            }
            x.told(0, "first", 39).told(0, "first", 1);
            // It hangs by a spell also with the least power.
            Sky w = new Sky().conjured(1, 1, 1, 1).conjured(1, 1, 1, 3).told(0, "first", 0);
            w.due(1, "pass", 1).told(-1, "first", 0).told(1, "first", 1);
            // The first hold counts, be it from a later stone than the second one or not; a lost one does not.
            Sky y = new Sky().conjured(1, 1, 60, 199).conjured(1, 1, 60, 30);
            y.hung(1, 1, 60, 1, 0).hung(1, 1, 60, 0, 1).hung(1, 1, 60, 2, 3).told(1, "first", 4).told(0, "first", 3);
            y.due(1, "pass", 15).told(0, "first", 4).told(0, "first", 2);
        });
        Sky.sentence("11: -1 if it has fallen", () ->
                Sky.small().told(-1, "first", 4).told(0, "first", 3).due(4, "pass", 22).told(-1, "first", 3)
                        .told(-1, "first", 0));
        Sky.sentence("11: Throws `IndexOutOfBoundsException` if there is no such stone", () -> {
            Sky.range(() -> Sky.strong(3), Sky.INDEX, 0, 0, 2, "first", 9);
            Sky.range(() -> Sky.strong(40), Sky.INDEX, 0, 0, 39, "first", 9);
        });
    }

    private static void promise12() {
        Sky.sentence("12: 0 the day, 1 stones that were hung in all, 2 stones that hang, 3 those of these that "
                + "hang by a spell, 4 stairs that are not gone, 5 the power of all spells, 6 all props of stones that "
                + "hang, 7 the loads of all that hang by a spell, added", () -> {
            new Sky().counts(0, 0, 0, 0, 0, 0, 0, 0);
            new Sky().conjured(1, 1, 1, 1).counts(0, 1, 1, 1, 0, 1, 0, 1);
            new Sky().conjured(5, 2, 1, 1).conjured(1, 9, 60, 200).due(0, "prop", 5, 4)
                    .counts(0, 6, 1, 1, 0, 200, 4, 5);
            Sky x = Sky.strong(40).joined(30, 0, 1).counts(0, 40, 40, 40, 30, 8000, 0, 40);
            x.due(0, "pass", 99).counts(99, 40, 40, 40, 30, 80, 0, 40);
            x.due(40, "pass", 1).counts(100, 40, 0, 0, 0, 0, 0, 0);
            Sky y = new Sky().conjured(2, 20, 60, 200).hung(1, 9, 60, 1, -1).conjured(1, 20, 1, 3).joined(1, 0, 2);
            y.due(0, "prop", 2, 7).due(0, "prop", 0, 60).due(0, "prop", 1, 5).hanging(0, 1, 2);
            y.counts(0, 4, 3, 2, 1, 400, 72, 17).due(0, "prop", 2, 60).counts(0, 4, 3, 2, 1, 400, 125, 15);
            y.due(200, "renew", 1, 16).due(2, "pass", 1).counts(1, 4, 1, 1, 0, 198, 60, 0);
        });
        Sky.sentence("12: Throws `IndexOutOfBoundsException` if what is not 0 to 7", () -> {
            Sky.range(Sky::new, Sky.INDEX, 0, 0, 7, "count", 9);
            Sky.range(Sky::small, Sky.INDEX, 0, 0, 7, "count", 9);
        });
    }

    private static void promise13() {
        Sky.sentence("13: Returns how many stones fall in them.", () -> {
            // Each day's, also the last one's, and none that had fallen ahead of them.
            Sky x = new Sky().conjured(1, 2, 1, 1).conjured(1, 1, 1, 1).conjured(2, 1, 1, 3).conjured(1, 1, 1, 200);
            x.due(3, "pass", 3).hanging(4).due(0, "pass", 96).due(1, "pass", 1).due(0, "pass", 120);
            x.due(220, "count", 0);
            Sky.strong(40).due(40, "pass", 120).due(120, "count", 0);
            Sky.strong(40).due(0, "pass", 99).due(40, "pass", 1);
        });
        Sky.sentence("13: Throws `IllegalArgumentException` if days is not 1 to 120", () -> {
            Sky.range(Sky::new, Sky.ARGUMENT, 0, 1, 120, "pass", 9);
            Sky.range(Sky::small, Sky.ARGUMENT, 0, 1, 120, "pass", 9);
            Sky.small().due(0, "pass", 1).due(1, "count", 0).due(4, "pass", 120).due(121, "count", 0);
        });
    }

    private static void promise14() {
        Sky.sentence("14: Returns how many stones would fall, with this one, if all its holds tore, or its spell "
                + "ended, now, and it gave way behind that", () -> {
            Sky.strong(1).told(1, "without", 0);
            Sky x = Sky.strong(1).hung(39, 1, 1, 0, -1).told(40, "without", 0).told(1, "without", 39);
            x.told(1, "without", 1);
            Sky y = Sky.small().told(4, "without", 0).told(1, "without", 1).told(1, "without", 2).told(1, "without", 3);
            y.due(0, "prop", 0, 18).told(4, "without", 0);
            // All it holds falls or goes on to the next one, which lets go in turn.
            Sky.dominoes().told(19, "without", 0).told(1, "without", 20).told(1, "without", 38);
            // Both of two holds tear, those by which it hangs alone.
            Sky.strong(2).hung(1, 2, 9, 0, 1).hung(2, 2, 9, 2, 1).told(1, "without", 2).told(1, "without", 0);
            Sky.strong(2).hung(1, 2, 9, 0, 1).hung(2, 2, 9, 2, -1).told(3, "without", 2).told(1, "without", 1);
        });
        Sky.sentence("14: 0 if it has fallen", () ->
                Sky.small().told(0, "without", 4).due(4, "pass", 22).told(0, "without", 0).told(0, "without", 3));
        Sky.sentence("14: (nothing is changed)", () ->
                changesNothing("without", new int[] {0}, new int[] {3}, new int[] {4}));
        Sky.sentence("14: Throws `IndexOutOfBoundsException` if there is no such stone", () -> {
            Sky.range(() -> Sky.strong(3), Sky.INDEX, 0, 0, 2, "without", 9);
            Sky.range(() -> Sky.strong(40), Sky.INDEX, 0, 0, 39, "without", 9);
        });
    }

    private static void promise15() {
        Sky.sentence("15: 0 if it has, at most 120; -1 if not by then", () -> {
            // No spell outlives 100 days, so that -1 never comes.
            Sky x = new Sky().conjured(1, 1, 1, 1).conjured(1, 1, 1, 2).conjured(1, 2, 1, 3).conjured(1, 2, 1, 4);
            x.told(1, "lasts", 0).told(1, "lasts", 1).told(1, "lasts", 2).told(2, "lasts", 3).conjured(1, 2, 1, 1);
            x.told(0, "lasts", 4).due(3, "pass", 1).told(0, "lasts", 0).told(1, "lasts", 3);
            Sky y = new Sky().conjured(1, 1, 60, 198).conjured(1, 1, 60, 199).conjured(1, 1, 60, 200);
            y.due(0, "prop", 0, 60).due(0, "prop", 1, 60);
            y.told(99, "lasts", 0).told(100, "lasts", 1).told(100, "lasts", 2).hung(1, 1, 1, 2, -1);
            y.told(100, "lasts", 3).told(100, "lasts", 2).due(0, "pass", 98).told(2, "lasts", 2);
            y.due(1, "pass", 1).told(0, "lasts", 0).told(1, "lasts", 2).due(2, "renew", 2, 200);
            y.told(100, "lasts", 2).told(100, "lasts", 3).due(1, "pass", 99).due(2, "pass", 1);
        });
        Sky.sentence("15: Returns behind how many days it has fallen, if nothing is done", () -> {
            Sky x = Sky.small().told(22, "lasts", 0).told(22, "lasts", 3).due(0, "pass", 21).told(1, "lasts", 3);
            // Stone 6 hangs from 5 alone behind the fall of 0, till that one's power is less than its load.
            Sky y = Sky.small().conjured(1, 1, 60, 200).hung(1, 2, 1, 0, 5);
            y.told(21, "lasts", 0).told(21, "lasts", 3).told(99, "lasts", 5).told(99, "lasts", 6);
        });
        Sky.sentence("15: (nothing is changed)", () ->
                changesNothing("lasts", new int[] {0}, new int[] {3}, new int[] {4}));
        Sky.sentence("15: Throws `IndexOutOfBoundsException` if there is no such stone", () -> {
            Sky.range(() -> Sky.strong(3), Sky.INDEX, 0, 0, 2, "lasts", 9);
            Sky.range(() -> Sky.strong(40), Sky.INDEX, 0, 0, 39, "lasts", 9);
        });
    }

    private static void promise16() {
        Sky.sentence("16: how many, 1 to 120", () -> {
            Sky x = Sky.strong(40).joined(30, 38, 39);
            x.told(40, "foresee", 1, 0).told(30, "foresee", 1, 1).told(7920, "foresee", 1, 2);
            x.told(40, "foresee", 99, 0).told(30, "foresee", 99, 1).told(80, "foresee", 99, 2);
            x.told(0, "foresee", 100, 0).told(0, "foresee", 100, 1).told(0, "foresee", 100, 2);
            x.told(0, "foresee", 120, 0).told(0, "foresee", 120, 1).told(0, "foresee", 120, 2);
        });
        Sky.sentence("16: 0 stones that hang then, 1 stairs that are not gone then, 2 the power of all spells then",
                () -> {
            Sky x = Sky.small().conjured(1, 1, 1, 9).joined(1, 0, 5).joined(1, 1, 3).due(2, "count", 4);
            x.told(5, "foresee", 4, 0).told(2, "foresee", 4, 1).told(53, "foresee", 4, 2);
            x.told(4, "foresee", 5, 0).told(1, "foresee", 5, 1).told(50, "foresee", 5, 2);
            x.told(4, "foresee", 21, 0).told(1, "foresee", 21, 1).told(18, "foresee", 21, 2);
            x.told(0, "foresee", 22, 0).told(0, "foresee", 22, 1).told(0, "foresee", 22, 2);
            x.due(1, "pass", 5).told(4, "foresee", 16, 0).told(0, "foresee", 17, 0);
        });
        Sky.sentence("16: Returns this, if nothing is done (nothing is changed).", () ->
                changesNothing("foresee", new int[] {30, 0}, new int[] {120, 1}, new int[] {1, 2}));
        Sky.sentence("16: Throws `IllegalArgumentException` if days is not 1 to 120", () -> {
            Sky.range(Sky::new, Sky.ARGUMENT, 0, 1, 120, "foresee", 9, 0);
            Sky.range(Sky::small, Sky.ARGUMENT, 0, 1, 120, "foresee", 9, 2);
            Sky.small().refused(Sky.ARGUMENT, "foresee", 0, -1).refused(Sky.ARGUMENT, "foresee", 121, 3);
        });
        Sky.sentence("16: Throws `IndexOutOfBoundsException` if what is not 0 to 2", () -> {
            Sky.range(Sky::new, Sky.INDEX, 1, 0, 2, "foresee", 1, 1);
            Sky.range(Sky::small, Sky.INDEX, 1, 0, 2, "foresee", 120, 1);
        });
    }

    private static void promise17() {
        Sky.sentence("17: so that the most stones hang behind so many days", () -> {
            // With 5 more, stone 0 saves itself, stone 1 itself and 2, which saves 1 by as much.
            Sky x = new Sky().conjured(2, 4, 10, 8).hung(1, 1, 10, 1, -1);
            x.told(1, "advise", 5, 3).told(0, "advise", 2, 3).told(-1, "advise", 1, 3).told(-1, "advise", 60, 4);
            // Behind 60 days, a power of 138 is 18.
            Sky y = new Sky().conjured(1, 20, 60, 138);
            y.told(-1, "advise", 60, 59).told(-1, "advise", 1, 60).told(0, "advise", 2, 60).told(0, "advise", 60, 60);
            new Sky().conjured(5, 2, 1, 1).conjured(1, 4, 10, 8).told(5, "advise", 5, 3);
            Sky z = Sky.strong(39).conjured(1, 20, 1, 21).told(39, "advise", 1, 1).told(-1, "advise", 1, 2);
            z.told(39, "advise", 60, 10).told(-1, "advise", 60, 11);
        });
        Sky.sentence("17: (but at most 60)", () -> {
            // Behind 30 days stone 0 may have a load of 20, behind 31 days of 18: its prop of 59 can be 60 alone.
            Sky x = new Sky().conjured(1, 20, 60, 80).due(0, "prop", 0, 59).hung(3, 20, 60, 0, -1);
            x.due(21, "stone", 0, 7).told(0, "advise", 1, 30).told(0, "advise", 60, 30);
            x.told(-1, "advise", 2, 31).told(1, "advise", 3, 31).told(1, "advise", 60, 31);
            // One of 60 stays as it is.
            Sky y = new Sky().conjured(1, 20, 60, 80).due(0, "prop", 0, 60).hung(3, 20, 60, 0, -1);
            y.due(20, "stone", 0, 7).told(-1, "advise", 60, 30).told(-1, "advise", 1, 31).told(1, "advise", 2, 31);
            y.told(1, "advise", 60, 31);
        });
        Sky.sentence("17: of several the one with the smallest number", () -> {
            new Sky().conjured(40, 4, 10, 8).told(0, "advise", 5, 3);
            Sky.strong(1).conjured(1, 2, 1, 1).conjured(3, 4, 10, 8).told(2, "advise", 5, 3);
            Sky.strong(3).conjured(1, 2, 60, 11).hung(3, 3, 60, 3, -1).told(3, "advise", 2, 1).told(-1, "advise", 1, 1);
        });
        Sky.sentence("17: -1 if no more hang by any", () -> {
            new Sky().told(-1, "advise", 1, 1).told(-1, "advise", 60, 60);
            // All stay without it; none stays with it; all have fallen.
            Sky.strong(40).told(-1, "advise", 60, 60);
            new Sky().conjured(40, 1, 60, 2).told(-1, "advise", 60, 1).due(40, "pass", 1).told(-1, "advise", 60, 1);
            // A fallen stone's prop helps nobody.
            new Sky().conjured(1, 20, 60, 1).conjured(1, 1, 60, 2).told(-1, "advise", 60, 1);
        });
        Sky.sentence("17: (nothing is changed)", () ->
                changesNothing("advise", new int[] {1, 1}, new int[] {60, 60}, new int[] {2, 22}));
        Sky.sentence("17: Throws `IllegalArgumentException` if more is not 1 to 60, or days is not 1 to 60", () -> {
            Sky.range(Sky::new, Sky.ARGUMENT, 0, 1, 60, "advise", 9, 9);
            Sky.range(Sky::new, Sky.ARGUMENT, 1, 1, 60, "advise", 9, 9);
            Sky.range(Sky::small, Sky.ARGUMENT, 0, 1, 60, "advise", 9, 9);
            Sky.range(Sky::small, Sky.ARGUMENT, 1, 1, 60, "advise", 9, 9);
            new Sky().refused(Sky.ARGUMENT, "advise", 0, 0).refused(Sky.ARGUMENT, "advise", 61, 61);
        });
    }

    private static void promise18() {
        Sky.sentence("18: Returns the mean load of all stones that hang; 0 if none does.", () -> {
            new Sky().told(0.0, "mean").conjured(1, 2, 1, 1).told(0.0, "mean");
            Sky.strong(1).told(1.0, "mean").due(0, "prop", 0, 1).told(0.0, "mean");
            Sky.strong(40).told(1.0, "mean").due(40, "pass", 120).told(0.0, "mean");
            // Those that have fallen are not among them; the mean is no whole number.
            Sky.small().told(34.0 / 4, "mean").conjured(1, 1, 1, 200).told(7.0, "mean").conjured(1, 2, 1, 200)
                    .told(37.0 / 6, "mean").due(4, "pass", 22).told(1.5, "mean");
        });
    }

    private static void promise19() {
        Sky.sentence("19: A number d starts with 971", () ->
                // Eight numbers of 0 behind it
                new Sky().told(971L * 31 * 31 * 31 * 31 * 31 * 31 * 31 * 31, "digest"));
        Sky.sentence("19: d becomes d * 31 + x, which wraps around as a 64-bit integer", () -> {
            Sky.strong(1).told(Sky.checksum(() -> Sky.strong(1), 1, 0), "digest");
            Sky.small().told(Sky.checksum(Sky::small, 5, 0), "digest");
        });
        Sky.sentence("19: what count() tells, in its order; for each stone what stone() tells, in its order; "
                + "for each stair what joins() tells, in its order", () -> {
            full().told(Sky.checksum(BoundaryTests::full, 40, 30), "digest");
            full().due(1, "pass", 20).told(Sky.checksum(() -> full().due(1, "pass", 20), 40, 30), "digest");
            full().due(40, "pass", 120).told(Sky.checksum(() -> full().due(40, "pass", 120), 40, 30), "digest");
        });
    }

    /** All stones and all stairs that there can be. */
    private static Sky full() {
        Sky x = Sky.dominoes().conjured(1, 2, 3, 40);
        for (int i = 0; i < 30; i++) {
            x.joined(1, i, 39 - i / 3);
        }
        return x;
    }

    /** Behind these questions, all goes on as it does in a sky that was not asked. */
    private static void changesNothing(String name, int[]... asked) {
        Sky x = Sky.small().joined(1, 0, 3);
        Sky y = Sky.small().joined(1, 0, 3);
        String[] names = {"prop", "hang", "swap", "renew", "pass", "conjure", "pass"};
        int[][] a = {{3, 1}, {3, 7, 2, 0}, {0, 0}, {0, 80}, {20}, {6, 9, 9}, {40}};
        for (int i = 0; i < names.length; i++) {
            for (int[] b : asked) {
                Object before = x.call("digest");
                x.call(name, b);
                x.due(before, "digest");
            }
            x.due(y.call(names[i], a[i]), names[i], a[i]).due(y.call("digest"), "digest");
        }
    }

    public static void main(String[] args) {
        promise1();
        promise2();
        promise3();
        promise4();
        promise5();
        promise6();
        promise7();
        promise8();
        promise9();
        promise10();
        promise11();
        promise12();
        promise13();
        promise14();
        promise15();
        promise16();
        promise17();
        promise18();
        promise19();
        Sky.end();
    }
}
