/** Each sentence of "Terms", and of "What it is", that names a boundary case, with a test of its own. */
public final class TermsTests {
    private static void numbersAndTime() {
        Sky.sentence("All numbers are whole, and / is cut towards 0.", () -> {
            Sky.strong(2).hung(1, 3, 60, 0, 1).due(2, "stone", 0, 8).due(1, "stone", 1, 8);
            Sky.strong(2).hung(1, 19, 60, 0, 1).due(10, "stone", 0, 8).due(9, "stone", 1, 8);
            Sky.strong(2).hung(1, 20, 60, 0, 1).due(10, "stone", 0, 8).due(10, "stone", 1, 8);
        });
        Sky.sentence("Time is told in days, from 0.", () -> {
            new Sky().due(0, "count", 0);
            Sky.strong(1).due(0, "count", 0).due(0, "pass", 1).due(1, "count", 0);
        });
    }

    private static void stones() {
        Sky.sentence("There are at most 40 in all, numbered from 0 in the order of their hanging", () -> {
            Sky x = new Sky();
            for (int i = 0; i < 40; i += 2) {
                x.due(i, "conjure", 1, 60, 200).due(i + 1, "hang", 1, 60, i, -1);
            }
            x.refused(Sky.STATE, "conjure", 1, 60, 200).refused(Sky.STATE, "hang", 1, 60, 0, -1);
            x.due(40, "count", 1);
            // The fallen ones are some of the 40, too.
            Sky y = new Sky();
            for (int i = 0; i < 40; i++) {
                y.due(i, "conjure", 2, 1, 1);
            }
            y.due(0, "count", 2).refused(Sky.STATE, "conjure", 1, 1, 1);
        });
        Sky.sentence("each has a weight, 1 to 20, and strength, 1 to 60", () -> {
            Sky x = new Sky().due(0, "conjure", 1, 1, 200).due(1, "conjure", 20, 60, 200);
            x.due(2, "hang", 1, 1, 1, -1).due(3, "hang", 20, 60, 1, -1);
            x.due(1, "stone", 0, 0).due(1, "stone", 0, 1).due(20, "stone", 1, 0).due(60, "stone", 1, 1);
            x.due(1, "stone", 2, 0).due(1, "stone", 2, 1).due(20, "stone", 3, 0).due(60, "stone", 3, 1);
        });
        Sky.sentence("it hangs by a spell, with a power, 1 to 200", () -> {
            Sky x = new Sky().due(0, "conjure", 1, 1, 1).due(1, "conjure", 1, 1, 200);
            x.hanging(0, 1).due(1, "stone", 0, 3).due(200, "stone", 1, 3);
        });
        Sky.sentence("by one or two holds from earlier stones, the first and the second one", () -> {
            Sky x = Sky.strong(2).due(2, "hang", 1, 1, 1, -1).due(3, "hang", 1, 1, 1, 0).due(4, "hang", 1, 1, 0, 2);
            x.due(1, "stone", 2, 4).due(-1, "stone", 2, 5);
            x.due(1, "stone", 3, 4).due(0, "stone", 3, 5);
            x.due(0, "stone", 4, 4).due(2, "stone", 4, 5);
            x.refused(Sky.INDEX, "hang", 1, 1, 5, -1).refused(Sky.INDEX, "hang", 1, 1, 0, 5);
        });
        Sky.sentence("or it has fallen, for good", () -> {
            Sky x = new Sky().conjured(1, 2, 1, 1).conjured(1, 1, 60, 200).hanging(1);
            x.refused(Sky.STATE, "renew", 0, 200).refused(Sky.STATE, "prop", 0, 60);
            x.refused(Sky.STATE, "hang", 1, 1, 0, -1).refused(Sky.STATE, "hang", 1, 1, 1, 0);
            x.due(0, "pass", 5).due(2, "hang", 1, 1, 1, -1).due(0, "prop", 1, 60).hanging(1, 2);
        });
        Sky.sentence("It has a prop, 0 (at first) to 60.", () -> {
            Sky x = Sky.strong(1).hung(1, 1, 1, 0, -1).due(0, "stone", 0, 6).due(0, "stone", 1, 6);
            x.due(0, "prop", 0, 60).due(60, "stone", 0, 6).due(0, "prop", 0, 0).due(0, "stone", 0, 6);
        });
    }

    private static void loadAndPull() {
        Sky.sentence("its weight and its pull, added, less its prop, at least 0", () -> {
            Sky x = new Sky().conjured(1, 4, 60, 200).hung(1, 5, 60, 0, -1).due(9, "stone", 0, 7);
            x.due(0, "prop", 0, 8).due(1, "stone", 0, 7);
            x.due(0, "prop", 0, 9).due(0, "stone", 0, 7);
            x.due(0, "prop", 0, 10).due(0, "stone", 0, 7);
            x.due(0, "prop", 0, 60).due(0, "stone", 0, 7).due(5, "stone", 0, 8);
            // What a prop could bear beyond the load does not help the stone above.
            x.due(0, "prop", 1, 60).due(0, "stone", 1, 7).due(0, "stone", 0, 8);
        });
        Sky.sentence("all of it, if that one has this hold alone", () -> {
            Sky.strong(1).hung(1, 1, 60, 0, -1).due(1, "stone", 0, 8);
            Sky.strong(1).hung(3, 20, 60, 0, -1).due(60, "stone", 0, 8).due(61, "stone", 0, 7);
        });
        Sky.sentence("of two holds the first one bears (load + 1) / 2, the second one load / 2", () -> {
            Sky.strong(2).hung(1, 1, 60, 0, 1).due(1, "stone", 0, 8).due(0, "stone", 1, 8);
            Sky.strong(2).hung(1, 1, 60, 1, 0).due(0, "stone", 0, 8).due(1, "stone", 1, 8);
            Sky x = Sky.strong(2).hung(1, 7, 60, 1, 0).due(3, "stone", 0, 8).due(4, "stone", 1, 8);
            x.due(0, "prop", 2, 1).due(3, "stone", 0, 8).due(3, "stone", 1, 8);
            x.due(0, "prop", 2, 6).due(0, "stone", 0, 8).due(1, "stone", 1, 8);
            x.due(0, "prop", 2, 7).due(0, "stone", 0, 8).due(0, "stone", 1, 8);
            // A share is one of the load, not of the weight.
            x.due(0, "prop", 2, 0).hung(1, 4, 60, 2, -1).due(5, "stone", 0, 8).due(6, "stone", 1, 8);
        });
    }

    private static void givingWay() {
        Sky.sentence("all of a round by the loads ahead of it", () -> {
            // Stones 1 and 0 are both pulled too much: that 1 lets go does not save the holds from 0.
            Sky x = new Sky().conjured(1, 1, 10, 200).hung(1, 1, 9, 0, -1).hung(1, 9, 60, 1, -1).hanging(0, 1, 2);
            x.due(3, "hang", 1, 60, 1, -1).hanging(0);
            // Stone 0 lets go in the same round in which its spell ends: that it lets go does not save it.
            Sky y = new Sky().conjured(1, 5, 10, 15).hung(1, 10, 60, 0, -1).hanging(0, 1);
            y.due(2, "hang", 1, 60, 0, -1).hanging();
        });
        Sky.sentence("at each stone whose pull is more than its strength all holds from it tear", () -> {
            Sky w = new Sky().conjured(1, 1, 1, 200).hung(1, 1, 60, 0, -1).hanging(0, 1);
            w.due(2, "hang", 1, 60, 0, -1).hanging(0).due(0, "stone", 0, 8).due(0, "stone", 0, 9);
            Sky x = Sky.strong(1).hung(3, 20, 60, 0, -1).due(60, "stone", 0, 8).hanging(0, 1, 2, 3);
            x.due(4, "hang", 1, 60, 0, -1).hanging(0);
            // First and second holds alike, and only those from this stone.
            Sky y = Sky.strong(2).conjured(1, 1, 10, 200);
            y.hung(1, 6, 60, 0, 2).hung(1, 6, 60, 2, 1).hung(1, 4, 60, 2, -1).due(10, "stone", 2, 8);
            y.due(6, "hang", 2, 60, 0, 2).hanging(0, 1, 2, 3, 4, 6);
            y.due(0, "stone", 2, 9).facts(3, 6, 60, 1, 0, 0, -1).facts(4, 6, 60, 1, 0, 1, -1).due(0, "stone", 6, 4);
            // The pull, not the load; and at each stone, however many have fallen ahead of it.
            Sky z = new Sky().conjured(5, 2, 1, 1).conjured(1, 20, 1, 200).hung(1, 1, 60, 5, -1).hanging(5, 6);
            z.told(2, "foresee", 1, 0).due(7, "hang", 1, 60, 5, -1).hanging(5);
        });
        Sky.sentence("each spell whose power is less than the load of its stone ends", () -> {
            new Sky().conjured(1, 1, 1, 1).hanging(0).conjured(1, 2, 1, 1).hanging(0);
            new Sky().conjured(1, 20, 1, 20).hanging(0).conjured(1, 20, 1, 19).hanging(0);
            Sky x = new Sky().conjured(1, 20, 60, 80).hung(3, 20, 1, 0, -1);
            x.hanging(0, 1, 2, 3).due(80, "stone", 0, 7).due(80, "stone", 0, 3);
            Sky y = new Sky().conjured(1, 20, 60, 79).hung(2, 20, 1, 0, -1).hanging(0, 1, 2);
            y.due(3, "hang", 20, 1, 0, -1).hanging().due(0, "stone", 0, 3);
            // Each such spell, not the first one alone.
            Sky z = new Sky().conjured(2, 1, 60, 5).hung(1, 8, 60, 0, 1).hanging(0, 1, 2);
            z.due(3, "hang", 2, 60, 0, 1).hanging();
        });
        Sky.sentence("Then, by numbers, each stone that hangs, and has neither a spell nor a hold any more, falls: "
                + "all holds from it tear.", () -> {
            Sky x = new Sky().conjured(1, 1, 60, 39);
            for (int i = 0; i < 38; i++) {
                x.due(i + 1, "hang", 1, 60, i, -1);
            }
            x.due(39, "count", 2).due(39, "hang", 1, 60, 38, -1).due(0, "count", 2).due(0, "count", 3);
            x.facts(39, 1, 60, 0, 0, -1, -1, 0, 0, 0, 0).facts(0, 1, 60, 0, 0, -1, -1, 0, 0, 0, 0);
            // One that has another hold, or a spell, does not.
            Sky y = new Sky().conjured(1, 1, 60, 6).conjured(1, 1, 60, 200).hung(1, 9, 60, 0, 1).hanging(0, 1, 2);
            y.due(3, "hang", 1, 60, 0, -1).hanging(1, 2);
        });
        Sky.sentence("A stone that lost one of two holds has the other one alone from then on.", () -> {
            Sky x = Sky.strong(1).conjured(1, 1, 4, 200).hung(1, 8, 60, 1, 0).hung(1, 7, 60, 0, -1);
            x.due(11, "stone", 0, 8).due(4, "stone", 1, 8);
            x.due(4, "hang", 1, 60, 1, -1).facts(2, 8, 60, 1, 0, 0, -1).due(15, "stone", 0, 8).due(0, "stone", 1, 8);
            Sky y = Sky.strong(1).conjured(1, 1, 4, 200).hung(1, 8, 60, 0, 1).due(4, "stone", 0, 8);
            y.due(3, "hang", 1, 60, 1, -1).facts(2, 8, 60, 1, 0, 0, -1).due(8, "stone", 0, 8).due(0, "stone", 1, 8);
            // Nothing but a second hold tears.
            Sky z = Sky.strong(1).conjured(1, 1, 4, 200).hung(1, 8, 60, 0, 1).hung(1, 1, 60, 2, -1);
            z.due(5, "stone", 0, 8).due(4, "hang", 1, 60, 2, -1).facts(2, 8, 60, 1, 0, 0, -1);
            z.due(10, "stone", 0, 8).due(0, "stone", 1, 8);
        });
        Sky.sentence("If something tore or ended in a round, there is another one.", () -> {
            Sky x = Sky.dominoes().due(39, "count", 2).due(39, "hang", 10, 60, 0, -1);
            x.counts(0, 40, 21, 20, 0, 4000, 0, 30).due(1, "stone", 38, 2).due(19, "stone", 38, 4);
            // Stone 0's spell ends, and what it bore is too much for 1, whose spell ends in the next round.
            Sky y = new Sky().conjured(1, 1, 60, 6).conjured(1, 1, 60, 6).hung(1, 9, 60, 0, 1).hanging(0, 1, 2);
            y.due(3, "hang", 1, 60, 0, -1).hanging();
            // What hangs from 1 tears in the first round, what 2 then bears in the second one.
            Sky z = Sky.strong(1).conjured(1, 1, 5, 200).hung(1, 1, 5, 0, -1).hung(1, 9, 60, 1, 2).hanging(0, 1, 2, 3);
            z.due(4, "hang", 1, 60, 1, -1).hanging(0, 1, 2);
            // In the first round nothing but a second hold tears.
            Sky v = new Sky().conjured(1, 1, 9, 200).conjured(1, 1, 4, 200).hung(1, 9, 60, 0, 1).hanging(0, 1, 2);
            v.due(3, "hang", 1, 60, 2, -1).hanging(0, 1);
        });
        Sky.sentence("It gives way, too, behind each hanging of a stone, and each change of a prop.", () -> {
            new Sky().due(0, "conjure", 2, 1, 1).hanging();
            Sky.strong(1).due(1, "hang", 1, 1, 0, -1).due(2, "hang", 2, 1, 1, -1).hanging(0, 1);
            Sky x = new Sky().conjured(1, 20, 1, 200).due(0, "prop", 0, 19).due(200, "renew", 0, 1).hanging(0);
            x.due(1, "prop", 0, 18).hanging();
        });
    }

    private static void stairs() {
        Sky.sentence("There are at most 30 in all, numbered likewise", () -> {
            Sky x = Sky.strong(2);
            for (int i = 0; i < 30; i++) {
                x.due(i, "stair", i % 2, 1 - i % 2);
            }
            x.refused(Sky.STATE, "stair", 0, 1).due(30, "count", 4);
            // The gone ones are some of the 30, too.
            Sky y = Sky.strong(2).conjured(1, 1, 1, 1).joined(30, 0, 2).due(1, "pass", 1).due(0, "count", 4);
            y.refused(Sky.STATE, "stair", 0, 1);
        });
        Sky.sentence("each joins two different stones", () ->
                Sky.strong(2).refused(Sky.ARGUMENT, "stair", 0, 0).due(0, "stair", 0, 1).ends(0, 0, 1, 0));
        Sky.sentence("it is gone, if one of them falls", () -> {
            Sky x = Sky.strong(2).conjured(1, 1, 1, 1).joined(1, 0, 2).joined(1, 2, 1).joined(1, 0, 1);
            x.ends(0, 0, 2, 0).ends(1, 2, 1, 0).ends(2, 0, 1, 0).due(3, "count", 4);
            x.due(1, "pass", 1).ends(0, 0, 2, 1).ends(1, 2, 1, 1).ends(2, 0, 1, 0).due(1, "count", 4);
            // By its ends as they are behind a swap.
            Sky y = Sky.strong(3).conjured(1, 1, 1, 1).joined(1, 0, 3).joined(1, 1, 2).due(true, "swap", 0, 1);
            y.due(1, "pass", 1).ends(0, 0, 2, 0).ends(1, 1, 3, 1);
        });
        Sky.sentence("Going along one is a step.", () ->
                Sky.strong(2).joined(1, 0, 1).due(1, "steps", 0, 1).due(1, "steps", 1, 0));
    }

    private static void days() {
        Sky.sentence("each spell has 2 less power; one with 0 or less ends", () -> {
            Sky x = new Sky();
            for (int power = 1; power <= 4; power++) {
                x.conjured(1, 1, 1, power).due(0, "prop", power - 1, 1);
            }
            x.due(2, "pass", 1).hanging(2, 3).due(1, "stone", 2, 3).due(2, "stone", 3, 3).due(0, "stone", 0, 3);
            x.due(2, "pass", 1).hanging().due(0, "stone", 2, 3).due(0, "stone", 3, 3).due(0, "count", 5);
        });
        Sky.sentence("stones without a hold or a spell fall, as above, and it gives way, as above", () -> {
            Sky x = new Sky().conjured(1, 5, 1, 9).due(0, "pass", 2).due(5, "stone", 0, 3).due(1, "pass", 1).hanging();
            // Stone 0's spell is over: what hangs from it alone falls, too, on this day.
            new Sky().conjured(1, 1, 60, 2).hung(1, 1, 1, 0, -1).due(2, "pass", 1).hanging();
            fallsAheadOfGivingWay();
        });
        Sky.sentence("Then the day is 1 greater.", () -> {
            Sky x = new Sky().due(0, "pass", 1).due(1, "count", 0).due(0, "pass", 120).due(121, "count", 0);
            x.refused(Sky.ARGUMENT, "pass", 0).refused(Sky.ARGUMENT, "pass", 121).due(121, "count", 0);
        });
    }

    /**
     * Stone 0's spell is over, so that 4 hangs from 3 alone, which lets it go in the first round, in which the
     * spell of 1 ends; 2 bears what hung from 1 behind that. If it gave way first, 2 would let go, too.
     */
    private static void fallsAheadOfGivingWay() {
        Sky x = new Sky().conjured(1, 1, 60, 2).due(0, "prop", 0, 60).conjured(1, 1, 60, 5).conjured(1, 1, 16, 200);
        x.due(3, "hang", 1, 9, 2, -1).due(4, "hang", 10, 60, 0, 3).due(5, "hang", 6, 60, 1, 2);
        x.hanging(0, 1, 2, 3, 4, 5).due(4, "stone", 1, 7).due(9, "stone", 2, 8);
        x.due(3, "pass", 1).hanging(2, 3, 5).due(7, "stone", 2, 8);
    }

    private static void exceptions() {
        Sky.sentence("A method that throws an exception changes nothing.", () -> {
            Sky x = Sky.small();
            Sky y = Sky.small();
            String[] names = {"hang", "prop", "stair", "stair", "swap", "renew", "pass", "conjure", "pass"};
            int[][] a = {{2, 9, 3, 0}, {3, 4}, {0, 5}, {3, 1}, {0, 1}, {0, 90}, {20}, {3, 4, 5}, {40}};
            for (int i = 0; i < names.length; i++) {
                refuseAll(x);
                x.due(y.call(names[i], a[i]), names[i], a[i]).due(y.call("digest"), "digest");
            }
        });
        Sky.sentence("If several exceptions apply, the one that is named first is thrown.", () -> {
            Sky full = Sky.strong(39).conjured(1, 2, 1, 1).joined(29, 0, 1);
            full.refused(Sky.ARGUMENT, "conjure", 0, 1, 1).refused(Sky.ARGUMENT, "conjure", 1, 61, 1);
            full.refused(Sky.ARGUMENT, "conjure", 1, 1, 201);
            full.refused(Sky.ARGUMENT, "hang", 21, 1, 40, -1).refused(Sky.ARGUMENT, "hang", 1, 0, 0, 40);
            full.refused(Sky.ARGUMENT, "hang", 1, 1, 40, 40).refused(Sky.ARGUMENT, "hang", 1, 1, 39, 39);
            full.refused(Sky.ARGUMENT, "hang", 1, 1, -1, -1).refused(Sky.INDEX, "hang", 1, 1, 39, 40);
            full.refused(Sky.INDEX, "hang", 1, 1, 40, 39).refused(Sky.INDEX, "hang", 1, 1, -1, 39);
            full.refused(Sky.INDEX, "prop", 40, 61).refused(Sky.ARGUMENT, "prop", 39, 61);
            full.refused(Sky.INDEX, "renew", 40, 0).refused(Sky.ARGUMENT, "renew", 39, 201);
            full.refused(Sky.INDEX, "stair", 40, 40).refused(Sky.INDEX, "stair", 39, 40);
            full.refused(Sky.INDEX, "stair", 40, 39).refused(Sky.ARGUMENT, "stair", 39, 39);
            full.refused(Sky.INDEX, "swap", 29, 29).refused(Sky.ARGUMENT, "swap", 28, 28);
            full.refused(Sky.ARGUMENT, "foresee", 0, 3).refused(Sky.ARGUMENT, "foresee", 121, -1);
            full.joined(1, 0, 1).refused(Sky.ARGUMENT, "stair", 0, 0).refused(Sky.INDEX, "stair", 0, 40);
            Sky gone = Sky.strong(1).conjured(1, 1, 1, 1).joined(1, 0, 1).joined(1, 1, 0).due(1, "pass", 1);
            gone.refused(Sky.INDEX, "swap", 0, 2).refused(Sky.INDEX, "swap", 2, 0);
            gone.refused(Sky.ARGUMENT, "swap", 0, 0).refused(Sky.STATE, "swap", 0, 1);
        });
    }

    /** Each exception of each call of the face once. */
    private static void refuseAll(Sky x) {
        x.due(Sky.ARGUMENT, "conjure", 1, 1, 0);
        x.due(Sky.ARGUMENT, "hang", 1, 1, 0, 0).due(Sky.INDEX, "hang", 1, 1, 40, -1);
        x.due(Sky.STATE, "hang", 1, 1, 0, 4).due(Sky.STATE, "hang", 1, 1, 4, 0);
        x.due(Sky.INDEX, "prop", -1, 9).due(Sky.ARGUMENT, "prop", 0, 61).due(Sky.STATE, "prop", 4, 9);
        x.due(Sky.INDEX, "renew", 40, 9).due(Sky.ARGUMENT, "renew", 0, 201).due(Sky.STATE, "renew", 4, 9);
        x.due(Sky.STATE, "renew", 1, 200);
        x.due(Sky.INDEX, "stair", 0, 40).due(Sky.ARGUMENT, "stair", 0, 0).due(Sky.STATE, "stair", 0, 4);
        x.due(Sky.INDEX, "swap", 0, 30).due(Sky.INDEX, "joins", 30, 0).due(Sky.INDEX, "steps", 0, 40);
        x.due(Sky.INDEX, "stone", 0, 10).due(Sky.INDEX, "first", -1).due(Sky.INDEX, "count", 8);
        x.due(Sky.ARGUMENT, "pass", 121).due(Sky.INDEX, "without", -1).due(Sky.INDEX, "lasts", 40);
        x.due(Sky.ARGUMENT, "foresee", 0, 0).due(Sky.INDEX, "foresee", 9, 3).due(Sky.ARGUMENT, "advise", 9, 61);
    }

    private static void calls() {
        Sky.sentence("An object is used for at most 512 calls after it has been made", () -> {
            Sky x = Sky.strong(1).hung(39, 1, 60, 0, -1).joined(30, 0, 39);
            for (int i = 70; i < 510; i++) {
                x.due(-1, "advise", 60, 60);
            }
            x.due(81, "lasts", 39).due(40, "foresee", 80, 0);
        });
    }

    public static void main(String[] args) {
        numbersAndTime();
        stones();
        loadAndPull();
        givingWay();
        stairs();
        days();
        exceptions();
        calls();
        Sky.end();
    }
}
