/** The edges of promises 20 to 25, 32 and 34 to 36, sentence by sentence: ways, THE BRIDGE, shares, goes, loads. */
public final class EdgeWaysTest {
    private static final Check CHECK = new Check();
    private static final int MIN = Integer.MIN_VALUE;
    private static final int MAX = Integer.MAX_VALUE;

    public static void main(String[] args) {
        ways();
        waysOverTheBridge();
        soonest();
        crossing();
        shedding();
        sharing();
        sharedStones();
        goes();
        meeting();
        heaps();
        pairsAndHeaviest();
        refused();
        CHECK.end();
    }

    /** PERSON 0 has this LOAD, at this PLACE; PERSON 1 is at 0. */
    private static StoneBacks loaded(int load, int place, String more) {
        StringBuilder text = new StringBuilder("person 0 back 60 at " + place + ";person 0 back 60 at 0");
        for (int left = load; left > 0; left -= 40) {
            text.append(";stone ").append(Math.min(40, left)).append(" of 0 to 1");
        }
        return Check.told(text + more);
    }

    // ---- promises 20 and 21

    private static void ways() {
        CHECK.of("HOURS by 1 for each PLACE on, and 1 more for each 10 of LOAD times SLOPE of the PLACE that one comes to "
                + "(10 LOAD and SLOPE 2: 2 more; LOAD by 10 rounded down)");
        CHECK.due("none on", loaded(40, 3, ";slope 3 3").way(0, 3), 0);
        CHECK.due("one on", loaded(0, 3, ";slope 4 3").way(0, 4), 1);
        CHECK.due("LOAD 9", loaded(9, 3, ";slope 4 2").way(0, 4), 1);
        CHECK.due("LOAD 10 and SLOPE 2: 2 more", loaded(10, 3, ";slope 4 2").way(0, 4), 3);
        CHECK.due("LOAD 19 and SLOPE 3: 3 more", loaded(19, 3, ";slope 4 3").way(0, 4), 4);
        CHECK.due("LOAD 20 and SLOPE 3: 6 more", loaded(20, 3, ";slope 4 3").way(0, 4), 7);
        CHECK.due("LOAD 5 and SLOPE 2 are not 10", loaded(5, 3, ";slope 4 2").way(0, 4), 1);
        CHECK.due("the SLOPE of where one comes from counts not", loaded(20, 3, ";slope 3 3").way(0, 4), 1);
        CHECK.due("back", loaded(20, 3, ";slope 2 1;slope 3 3").way(0, 2), 3);
        CHECK.due("two on", loaded(10, 3, ";slope 4 1;slope 5 2").way(0, 5), 5);
        CHECK.due("from 0 to 11", loaded(0, 0, "").way(0, 11), 11);
        CHECK.due("from 11 to 0", loaded(0, 11, "").way(0, 0), 11);
        String all = ";slope 1 3;slope 2 3;slope 3 3;slope 4 3;slope 5 3;limit 99";
        CHECK.due("LOAD 99 over five", loaded(99, 0, all).way(0, 5), 5 + 5 * 27);
        StoneBacks bowed = Check.told("person 0 back 1 at 3;person 0 back 1 at 0;stone 40 of 0 to 1");
        CHECK.due("who is BOWED has a WAY, too", bowed.way(0, 5), 2);
    }

    private static void waysOverTheBridge() {
        CHECK.of("none over THE BRIDGE with a LOAD above LIMIT.");
        CHECK.due("LOAD 40 of LIMIT 40", loaded(40, 5, "").way(0, 6), 1);
        CHECK.due("LOAD 41 of LIMIT 40", loaded(41, 5, "").way(0, 6), -1);
        CHECK.due("LOAD 40 of LIMIT 40, back", loaded(40, 6, "").way(0, 5), 1);
        CHECK.due("LOAD 41 of LIMIT 40, back", loaded(41, 6, "").way(0, 5), -1);
        CHECK.due("41 over it from far", loaded(41, 0, "").way(0, 11), -1);
        CHECK.due("41 over it from far, back", loaded(41, 11, "").way(0, 0), -1);
        CHECK.of("THE BRIDGE: between PLACES 5 and 6");
        CHECK.due("up to it", loaded(41, 4, "").way(0, 5), 1);
        CHECK.due("from it", loaded(41, 5, "").way(0, 4), 1);
        CHECK.due("beyond it", loaded(41, 6, "").way(0, 7), 1);
        CHECK.due("beyond it, back", loaded(41, 7, "").way(0, 6), 1);
        CHECK.due("at its end", loaded(41, 5, "").way(0, 5), 0);
        CHECK.due("at its other end", loaded(41, 6, "").way(0, 6), 0);
    }

    private static void soonest() {
        CHECK.of("SOONEST to a PLACE: the PERSON, not BOWED, of the least WAY (of several the least; none).");
        CHECK.due("without PEOPLE", new StoneBacks().soonest(0), -1);
        CHECK.due("of several the least", Check.told("person 0 back 1 at 4;person 0 back 1 at 2").soonest(3), 0);
        CHECK.due("a nearer one", Check.told("person 0 back 1 at 5;person 0 back 1 at 2").soonest(3), 1);
        CHECK.due("one that is there", Check.told("person 0 back 1 at 4;person 0 back 1 at 3").soonest(3), 1);
        String two = "person 0 back 9 at 3;person 0 back 9 at 0;";
        CHECK.due("LOAD like BACK is not BOWED", Check.told(two + "stone 9 of 0 to 1").soonest(3), 0);
        CHECK.due("BOWED by LOAD", Check.told(two + "stone 10 of 0 to 1").soonest(3), 1);
        StoneBacks x = Check.told(two + "hour 1");
        Check.law(x, "tire 98 if who<1");
        x.hours(1);
        CHECK.due("TIRED 98", x.soonest(3), 0);
        Check.law(x, "tire 1 if who<1");
        x.hours(1);
        CHECK.due("BOWED by TIRED 99", x.soonest(3), 1);
        Check.law(x, "hurt 99 if who>0;hurt 1 if who>0");
        x.hours(1);
        CHECK.due("nobody that is not BOWED", x.soonest(3), -1);
        x.rest(1);
        CHECK.due("one again", x.soonest(3), 1);
        StoneBacks y = Check.told("person 0 back 60 at 5;person 0 back 60 at 0;stone 10 of 0 to 1;limit 9");
        CHECK.due("nearest, but not over THE BRIDGE", y.soonest(6), 1);
        Check.valley(y, "stone 10 of 1 to 0");
        CHECK.due("none over THE BRIDGE", y.soonest(6), -1);
        CHECK.due("on this side", y.soonest(5), 0);
    }

    // ---- promises 22 and 23

    private static void crossing() {
        CHECK.of("CROSS: whether a PERSON's LOAD is LIMIT at most.");
        CHECK.due("39 of 40", loaded(39, 0, "").cross(0), true);
        CHECK.due("40 of 40", loaded(40, 0, "").cross(0), true);
        CHECK.due("41 of 40", loaded(41, 0, "").cross(0), false);
        CHECK.due("0 of 1", loaded(0, 0, ";limit 1").cross(0), true);
        CHECK.due("1 of 1", loaded(1, 0, ";limit 1").cross(0), true);
        CHECK.due("2 of 1", loaded(2, 0, ";limit 1").cross(0), false);
        CHECK.due("99 of 99", loaded(99, 0, ";limit 99").cross(0), true);
        CHECK.due("100 of 99", loaded(100, 0, ";limit 99").cross(0), false);
        CHECK.due("BACK counts not", Check.told("person 0 back 1 at 0;person 0 back 1 at 0;stone 40 of 0 to 1").cross(0), true);
    }

    private static StoneBacks wearing(int back, int limit, int... weights) {
        StringBuilder text = new StringBuilder("person 0 back " + back + " at 0;person 0 back 60 at 0;limit " + limit);
        for (int weight : weights) {
            text.append(";stone ").append(weight).append(" of 0 to 1");
        }
        return Check.told(text.toString());
    }

    private static void shedding() {
        CHECK.of("the fewest STONES that it wears to be put off so that LOAD is LIMIT and BACK at most: of several sets the "
                + "least as bits.");
        CHECK.due("none worn", wearing(1, 1).shed(0), 0);
        CHECK.due("LOAD like BACK", wearing(30, 40, 10, 20).shed(0), 0);
        CHECK.due("LOAD 1 above BACK", wearing(29, 40, 10, 20).shed(0), 1);
        CHECK.due("LOAD like LIMIT", wearing(40, 30, 10, 20).shed(0), 0);
        CHECK.due("LOAD 1 above LIMIT", wearing(40, 29, 10, 20).shed(0), 1);
        CHECK.due("20 is LIMIT still", wearing(40, 20, 10, 20).shed(0), 1);
        CHECK.due("19: the second", wearing(40, 19, 10, 20).shed(0), 2);
        CHECK.due("10: the second", wearing(10, 40, 10, 20).shed(0), 2);
        CHECK.due("9: both", wearing(9, 40, 10, 20).shed(0), 3);
        CHECK.due("one great one before two small ones", wearing(60, 20, 5, 5, 5, 10).shed(0), 1);
        CHECK.due("the fewest, though as bits more", wearing(60, 15, 5, 5, 5, 10).shed(0), 8);
        CHECK.due("all ten", wearing(1, 1, 2, 2, 2, 2, 2, 2, 2, 2, 2, 2).shed(0), 1023);
        CHECK.due("all but the last", wearing(1, 1, 2, 2, 2, 2, 2, 2, 2, 2, 2, 1).shed(0), 511);
        CHECK.due("nine of ten alike: the least", wearing(60, 2, 2, 2, 2, 2, 2, 2, 2, 2, 2, 2).shed(0), 511);
        StoneBacks x = wearing(9, 40, 10, 20);
        x.lay(0);
        CHECK.due("one set down is not worn", x.shed(0), 2);
        x.pass(1, 1);
        CHECK.due("nor one that another wears", x.shed(0), 0);
        CHECK.due("who wears it for another", x.shed(1), 0);
    }

    // ---- promise 24

    private static void sharing() {
        CHECK.of("the least that the greatest LOAD can be (0 without STONES; NONE, if nobody is there)");
        CHECK.due("nobody", new StoneBacks().share(0, -1), -1);
        CHECK.due("nobody there", loaded(40, 3, "").share(4, -1), -1);
        CHECK.due("without STONES", Check.told("person 0 back 1 at 5").share(5, -1), 0);
        CHECK.due("one PERSON", loaded(40, 3, "").share(3, -1), 40);
        CHECK.due("one PERSON, ten STONES", loaded(400, 3, "").share(3, -1), 400);
        CHECK.due("two, even", wearing(60, 40, 10, 20, 30).share(0, -1), 30);
        CHECK.due("two, odd", wearing(60, 40, 10, 20, 31).share(0, -1), 31);
        CHECK.due("above BACK, too", wearing(1, 1, 40, 40).share(0, -1), 40);
        StoneBacks laid = wearing(60, 40, 10, 20, 30);
        laid.lay(2);
        CHECK.due("one set down is not shared", laid.share(0, -1), 20);
        StoneBacks six = Check.told("person 0 back 1 at 5" + ";person 0 back 1 at 5".repeat(5)
                + ";stone 7 of 0 to 1;stone 7 of 1 to 2;stone 6 of 2 to 3;stone 5 of 3 to 4;stone 4 of 4 to 5;stone 3 of 5 to 0");
        CHECK.due("six by one each", six.share(5, -1), 7);
        Check.valley(six, "stone 2 of 0 to 1;stone 1 of 0 to 1;stone 4 of 0 to 1;stone 3 of 0 to 1");
        CHECK.due("42 among six", six.share(5, -1), 7);
        int[] takers = {0, 1, 2, 3, 4, 4, 3, 2, 5, 5};
        for (int k = 0; k < 10; k++) {
            CHECK.due("STONE " + k + " goes to", six.share(5, k), takers[k]);
        }
    }

    private static void sharedStones() {
        CHECK.of("whom the k-th of these STONES (by numbers, from 0 on) goes to in the first such way (STONE by STONE the least "
                + "PERSON).");
        StoneBacks x = Check.told("person 0 back 1 at 4;person 0 back 1 at 5;person 0 back 1 at 5;"
                + "stone 3 of 1 to 0;stone 9 of 0 to 1;stone 4 of 2 to 0;stone 5 of 2 to 1;stone 2 of 1 to 0");
        // of 3, 4, 5, 2 among PEOPLE 1 and 2: 7 at the least, by 3 and 4
        CHECK.due("the greatest", x.share(5, -1), 7);
        int[] takers = {1, 1, 2, 2};
        for (int k = 0; k < 4; k++) {
            CHECK.due("the " + k + "-th", x.share(5, k), takers[k]);
        }
        CHECK.due("at 4", x.share(4, 0), 0);
        CHECK.due("fewer STONES behind more: at 4", x.share(4, -1), 9);
        // of three of 5 two go to one of the two: the first two are the first way
        StoneBacks like = wearing(60, 40, 5, 5, 5);
        CHECK.due("the greatest", like.share(0, -1), 10);
        int[] first = {0, 0, 1};
        for (int k = 0; k < 3; k++) {
            CHECK.due("the " + k + "-th of like ones", like.share(0, k), first[k]);
        }
        CHECK.of("SHARE: the greatest LOAD (k NONE), or whom the k-th STONE goes to; NONE (also, if there is no such one).");
        for (int bad : new int[] {4, 10, -2, MIN, MAX}) {
            CHECK.due("the " + bad + "-th", x.share(5, bad), -1);
        }
        CHECK.due("at 4 the second", x.share(4, 1), -1);
        CHECK.due("nobody there", x.share(6, 0), -1);
        CHECK.due("without STONES", Check.told("person 0 back 1 at 5").share(5, 0), -1);
        CHECK.due("at 0", x.share(0, -1), -1);
        CHECK.due("at 11", x.share(11, -1), -1);
        // three PEOPLE and many STONES first, then two and one
        StoneBacks y = Check.told("person 0 back 1 at 5;person 0 back 1 at 5;person 0 back 1 at 5;person 0 back 1 at 6;"
                + "person 0 back 1 at 6;stone 40 of 0 to 1;stone 39 of 1 to 0;stone 38 of 2 to 0;stone 37 of 0 to 1;stone 2 of 3 to 0");
        CHECK.due("of 40, 39, 38 and 37", y.share(5, -1), 75);
        CHECK.due("of 2", y.share(6, -1), 2);
        CHECK.due("to the first of the two", y.share(6, 0), 3);
        CHECK.due("no second one", y.share(6, 1), -1);
        CHECK.due("again", y.share(5, -1), 75);
    }

    // ---- promise 25

    private static void goes() {
        CHECK.of("the fewest goes in which all PEOPLE cross THE BRIDGE, in each go such whose LOADS together are LIMIT at most; "
                + "NONE, if one alone is above it.");
        CHECK.due("without PEOPLE", new StoneBacks().goes(), 0);
        CHECK.due("one without LOAD", Check.told("person 0 back 1 at 5;limit 1").goes(), 1);
        String two = "person 0 back 1 at 0;person 0 back 1 at 11;";
        CHECK.due("together LIMIT", Check.told(two + "stone 20 of 0 to 1;stone 20 of 1 to 0").goes(), 1);
        CHECK.due("together above LIMIT", Check.told(two + "stone 20 of 0 to 1;stone 21 of 1 to 0").goes(), 2);
        CHECK.due("one alone at LIMIT", Check.told(two + "stone 40 of 0 to 1").goes(), 1);
        CHECK.due("one alone above LIMIT", Check.told(two + "stone 40 of 0 to 1;limit 39").goes(), -1);
        CHECK.due("the last alone above LIMIT", Check.told(two + "stone 40 of 1 to 0;limit 39").goes(), -1);
        String six = "person 0 back 1 at 5" + ";person 0 back 1 at 5".repeat(5);
        StringBuilder stones = new StringBuilder();
        for (int p = 0; p < 6; p++) {
            stones.append(";stone 5 of ").append(p).append(" to ").append((p + 1) % 6);
        }
        StoneBacks x = Check.told(six + stones);
        int[][] limits = {{30, 1}, {29, 2}, {15, 2}, {14, 3}, {10, 3}, {9, 6}, {5, 6}, {4, -1}};
        for (int[] limit : limits) {
            Check.valley(x, "limit " + limit[0]);
            CHECK.due("six of 5 by LIMIT " + limit[0], x.goes(), limit[1]);
        }
        int[] unlike = {6, 6, 4, 4, 5, 5};
        StringBuilder loads = new StringBuilder(six);
        for (int p = 0; p < 6; p++) {
            loads.append(";stone ").append(unlike[p]).append(" of ").append(p).append(" to ").append((p + 1) % 6);
        }
        StoneBacks y = Check.told(loads.toString());
        int[][] goes = {{30, 1}, {29, 2}, {15, 2}, {14, 3}, {10, 3}, {9, 4}, {8, 5}, {7, 6}, {6, 6}, {5, -1}};
        for (int[] limit : goes) {
            Check.valley(y, "limit " + limit[0]);
            CHECK.due("6 6 4 4 5 5 by LIMIT " + limit[0], y.goes(), limit[1]);
        }
    }

    // ---- promise 32

    private static void meeting() {
        CHECK.of("MEET: the PLACE to which the WAYS of all PEOPLE together take the fewest HOURS (of several the least; none).");
        CHECK.due("without PEOPLE", new StoneBacks().meet(), -1);
        CHECK.due("one at 0", Check.told("person 0 back 1 at 0").meet(), 0);
        CHECK.due("one at 11", Check.told("person 0 back 1 at 11").meet(), 11);
        CHECK.due("of several the least", Check.told("person 0 back 1 at 11;person 0 back 1 at 4").meet(), 4);
        CHECK.due("over THE BRIDGE by LIMIT", loaded(40, 11, "").meet(), 0);
        CHECK.due("both beyond", Check.told("person 0 back 60 at 11;person 0 back 60 at 6;stone 40 of 0 to 1;stone 1 of 0 to 1;"
                + "stone 40 of 1 to 0;stone 1 of 1 to 0").meet(), 6);
        StoneBacks x = loaded(41, 11, "");
        CHECK.due("one cannot cross: beyond", x.meet(), 6);
        Check.valley(x, "stone 40 of 1 to 0;stone 1 of 1 to 0");
        CHECK.due("neither can", x.meet(), -1);
        StoneBacks bowed = Check.told("person 0 back 1 at 3;person 0 back 1 at 9;person 0 back 1 at 9;stone 20 of 0 to 1");
        CHECK.due("who is BOWED counts, too", bowed.meet(), 9);
        Check.valley(bowed, "slope 6 1");
        CHECK.due("8 HOURS to 9, 10 to 5", bowed.meet(), 9);
        Check.valley(bowed, "slope 6 2");
        CHECK.due("10 HOURS to 9, 10 to 5", bowed.meet(), 5);
        Check.valley(bowed, "slope 6 1;slope 9 1");
        CHECK.due("9 HOURS to 8, 10 to 9", bowed.meet(), 8);
        Check.valley(bowed, "slope 7 3;slope 8 3;slope 9 3");
        CHECK.due("SLOPES of where one comes to", bowed.meet(), 5);
    }

    // ---- promises 34 to 36

    private static void heaps() {
        CHECK.of("HEAP: the PLACE where most WEIGHT is set down (of several the least; none).");
        CHECK.due("without all", new StoneBacks().heap(), -1);
        StoneBacks x = Check.told("person 0 back 1 at 0;person 90 back 1 at 11;porch 0;porch 11;stone 5 of 0 to 1;"
                + "stone 2 of 1 to 0;stone 3 of 1 to 0;stone 1 of 1 to 0");
        CHECK.due("all are worn", x.heap(), -1);
        x.lay(3);
        CHECK.due("one of 1", x.heap(), 11);
        x.lift(3, 1);
        CHECK.due("all are worn again", x.heap(), -1);
        x.lay(1);
        CHECK.due("at 11", x.heap(), 11);
        x.lay(0);
        CHECK.due("5 and 2", x.heap(), 0);
        x.lay(2);
        CHECK.due("5 and 5: the least", x.heap(), 0);
        x.lay(3);
        CHECK.due("5 and 6", x.heap(), 11);
        x.pay(3);
        CHECK.due("5 and 5 again", x.heap(), 0);
        x.lift(0, 0);
        CHECK.due("at 11 alone", x.heap(), 11);
        x.pay(1);
        x.pay(2);
        CHECK.due("all paid or worn", x.heap(), -1);
    }

    private static void pairsAndHeaviest() {
        CHECK.of("PAIRS: pairs of PEOPLE of like LOAD: how many.");
        CHECK.due("without PEOPLE", new StoneBacks().pairs(), 0);
        CHECK.due("one", Check.told("person 0 back 1 at 0").pairs(), 0);
        CHECK.due("two", Check.told("person 0 back 1 at 0;person 0 back 2 at 1").pairs(), 1);
        CHECK.due("two unlike", loaded(1, 0, "").pairs(), 0);
        CHECK.due("six", Check.told("person 0 back 1 at 0" + ";person 0 back 1 at 0".repeat(5)).pairs(), 15);
        CHECK.of("HEAVIEST: the PERSON of the most LOAD (of several the least; none).");
        CHECK.due("without PEOPLE", new StoneBacks().heaviest(), -1);
        CHECK.due("one without LOAD", Check.told("person 0 back 1 at 0").heaviest(), 0);
        CHECK.due("all without LOAD", Check.told("person 0 back 1 at 0;person 0 back 1 at 0").heaviest(), 0);
        String six = "person 0 back 1 at 0" + ";person 0 back 1 at 0".repeat(5);
        CHECK.due("the last", Check.told(six + ";stone 1 of 5 to 0").heaviest(), 5);
        CHECK.due("of several the least", Check.told(six + ";stone 4 of 5 to 0;stone 4 of 3 to 0;stone 3 of 1 to 0").heaviest(), 3);
        CHECK.due("pairs of 0 3 0 4 0 4", Check.told(six + ";stone 4 of 5 to 0;stone 4 of 3 to 0;stone 3 of 1 to 0").pairs(), 4);
    }

    private static void refused() {
        CHECK.of("IndexOutOfBoundsException: there is no such PERSON, STONE, PLACE.");
        StoneBacks x = Check.told("person 0 back 1 at 0" + ";person 0 back 1 at 0".repeat(5));
        for (int bad : new int[] {-1, 6, MIN, MAX}) {
            CHECK.noBounds("way(" + bad + ", 0)", () -> x.way(bad, 0));
            CHECK.noBounds("cross(" + bad + ")", () -> x.cross(bad) ? 1 : 0);
            CHECK.noBounds("shed(" + bad + ")", () -> x.shed(bad));
        }
        for (int bad : new int[] {-1, 12, MIN, MAX}) {
            CHECK.noBounds("way(0, " + bad + ")", () -> x.way(0, bad));
            CHECK.noBounds("soonest(" + bad + ")", () -> x.soonest(bad));
            CHECK.noBounds("share(" + bad + ", -1)", () -> x.share(bad, -1));
            CHECK.noBounds("share(" + bad + ", 0)", () -> x.share(bad, 0));
        }
        CHECK.due("way(5, 11)", x.way(5, 11), 11);
        CHECK.due("soonest(11)", x.soonest(11), 0);
        CHECK.due("cross(5)", x.cross(5), true);
        CHECK.due("shed(5)", x.shed(5), 0);
    }
}
