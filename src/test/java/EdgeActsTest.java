/** The edges of promises 11 to 19 and 43, sentence by sentence: ACTS, AN HOUR, DRAWS. */
public final class EdgeActsTest {
    private static final Check CHECK = new Check();
    private static final int MIN = Integer.MIN_VALUE;
    private static final int MAX = Integer.MAX_VALUE;

    public static void main(String[] args) {
        lending();
        lendingRefused();
        paying();
        payingRefused();
        breaking();
        breakingRefused();
        passing();
        layingDown();
        lifting();
        goals();
        resting();
        hours();
        earning();
        walking();
        tiring();
        hurting();
        hoursEnd();
        days();
        draws();
        CHECK.end();
    }

    /** PERSON 0 has this PURSE; PERSON 1 has 999; both are at 3, where they earn nothing more. */
    private static StoneBacks rich(int purse) {
        StoneBacks x = Check.told("person " + purse % 99 + " back 60 at 3;person 999 back 60 at 3");
        Check.law(x, "earn 99 if who<1");
        for (int left = purse / 99; left > 0; left -= 100) {
            x.hours(Math.min(100, left));
        }
        Check.law(x, "");
        CHECK.due("PURSE", x.person(0, 0), purse);
        return x;
    }

    // ---- promise 11

    private static void lending() {
        CHECK.of("a LENDER lends to a PERSON (PURSE to PURSE as much as WEIGHT; 9999 at most): a new STONE that this one wears");
        StoneBacks x = Check.told("person 40 back 60 at 0;person 0 back 60 at 11");
        CHECK.due("all of a PURSE", x.lend(0, 1, 40), 0);
        CHECK.due("the LENDER's PURSE", x.person(0, 0), 0);
        CHECK.due("the other's", x.person(1, 0), 40);
        int[] want = {1, 0, 40, 0, 1, 11};
        for (int what = 0; what < 6; what++) {
            CHECK.due("stone(0, " + what + ")", x.stone(0, what), want[what]);
        }
        CHECK.due("the least", x.lend(1, 0, 1), 1);
        CHECK.due("its WEIGHT", x.stone(1, 2), 1);
        StoneBacks y = rich(9990);
        y.lend(1, 0, 8);
        CHECK.due("9998", y.person(0, 0), 9998);
        y.lend(1, 0, 1);
        CHECK.due("9999", y.person(0, 0), 9999);
        y.lend(1, 0, 1);
        CHECK.due("9999 at most", y.person(0, 0), 9999);
        CHECK.due("the LENDER's is less all the same", y.person(1, 0), 989);
        y.undo();
        y.undo();
        y.lend(1, 0, 40);
        CHECK.due("9999 at most", y.person(0, 0), 9999);
        CHECK.due("the LENDER's", y.person(1, 0), 951);
    }

    private static void lendingRefused() {
        CHECK.of("IllegalArgumentException: both are one, or WEIGHT is none (1 to 40); IllegalStateException: there are 10 "
                + "STONES, or the LENDER's PURSE is less.");
        StoneBacks x = Check.told("person 39 back 60 at 0;person 0 back 60 at 11");
        for (int bad : new int[] {0, 41, -1, MIN, MAX}) {
            CHECK.noArgument("lend(0, 1, " + bad + ")", () -> x.lend(0, 1, bad));
            CHECK.noArgument("lend(1, 0, " + bad + ")", () -> x.lend(1, 0, bad));
        }
        CHECK.noArgument("both are one", () -> x.lend(0, 0, 1));
        CHECK.noArgument("both are one, the PURSE is less", () -> x.lend(1, 1, 1));
        CHECK.noState("40 of 39", () -> x.lend(0, 1, 40));
        CHECK.noState("1 of 0", () -> x.lend(1, 0, 1));
        CHECK.due("39 of 39", x.lend(0, 1, 39), 0);
        for (int n = 1; n < 10; n++) {
            CHECK.due("STONE " + n, x.lend(1, 0, 1), n);
        }
        CHECK.noState("an 11th", () -> x.lend(1, 0, 1));
        CHECK.noArgument("both are one, there are 10", () -> x.lend(1, 1, 1));
        CHECK.noArgument("no WEIGHT, there are 10", () -> x.lend(1, 0, 0));
        CHECK.of("IndexOutOfBoundsException: there is no such PERSON, STONE, PLACE.");
        for (int bad : new int[] {-1, 2, MIN, MAX}) {
            CHECK.noBounds("lend(" + bad + ", 0, 1)", () -> x.lend(bad, 0, 1));
            CHECK.noBounds("lend(0, " + bad + ", 1)", () -> x.lend(0, bad, 1));
            CHECK.noBounds("lend(" + bad + ", " + bad + ", 0)", () -> x.lend(bad, bad, 0));
        }
        CHECK.due("ten STONES", x.count(1), 10);
    }

    // ---- promise 12

    private static void paying() {
        CHECK.of("a STONE is paid: its DEBTOR's PURSE has its WEIGHT less, its LENDER's as much more (9999 at most)");
        StoneBacks x = Check.told("person 7 back 60 at 0;person 0 back 60 at 11;person 5 back 60 at 4;"
                + "stone 7 of 0 to 1 worn by 2");
        CHECK.due("to the last", x.pay(0), 0);
        CHECK.due("the LENDER's PURSE", x.person(1, 0), 7);
        CHECK.due("the BEARER's PURSE", x.person(2, 0), 5);
        CHECK.due("the BEARER's LOAD", x.person(2, 6), 0);
        StoneBacks y = rich(9990);
        Check.valley(y, "stone 8 of 1 to 0;stone 2 of 1 to 0;stone 2 of 1 to 0");
        CHECK.due("pay", y.pay(0), 991);
        CHECK.due("9998", y.person(0, 0), 9998);
        CHECK.due("pay", y.pay(1), 989);
        CHECK.due("9999 at most", y.person(0, 0), 9999);
        CHECK.due("pay", y.pay(2), 987);
        CHECK.due("9999 at most", y.person(0, 0), 9999);
        CHECK.of("Paid: PURSE of the DEBTOR then.");
        StoneBacks z = Check.told("person 99 back 60 at 0;person 0 back 60 at 0;stone 40 of 0 to 1;stone 1 of 0 to 1");
        z.lay(0);
        CHECK.due("one set down", z.pay(0), 59);
        CHECK.due("nothing lies there", z.place(0, 3), 0);
        CHECK.due("one worn", z.pay(1), 58);
    }

    private static void payingRefused() {
        CHECK.of("IllegalStateException: it is paid, or that PURSE is less.");
        StoneBacks x = Check.told("person 6 back 60 at 0;person 99 back 60 at 11;stone 7 of 0 to 1 worn by 0;stone 6 of 0 to 1;"
                + "stone 1 of 0 to 1");
        CHECK.noState("7 of 6", () -> x.pay(0));
        CHECK.due("6 of 6", x.pay(1), 0);
        CHECK.noState("it is paid", () -> x.pay(1));
        CHECK.noState("1 of 0", () -> x.pay(2));
        x.lend(1, 0, 40);
        CHECK.noState("it is paid still", () -> x.pay(1));
        CHECK.of("IndexOutOfBoundsException: there is no such PERSON, STONE, PLACE.");
        for (int bad : new int[] {-1, 4, 10, MIN, MAX}) {
            CHECK.noBounds("pay(" + bad + ")", () -> x.pay(bad));
        }
    }

    // ---- promise 13

    private static void breaking() {
        CHECK.of("a STONE is broken in two: a new STONE of the half, rounded down, all else as of it, the rest stays");
        int[][] halves = {{2, 1, 1}, {3, 1, 2}, {39, 19, 20}, {40, 20, 20}};
        for (int[] half : halves) {
            StoneBacks x = Check.told("person 6 back 60 at 0;person 9 back 60 at 11;person 1 back 1 at 5;"
                    + "stone " + half[0] + " of 0 to 1 worn by 2");
            CHECK.due("the new one of " + half[0], x.split(0), 1);
            CHECK.due("its WEIGHT", x.stone(1, 2), half[1]);
            CHECK.due("the rest", x.stone(0, 2), half[2]);
            for (int what : new int[] {0, 1, 3, 4, 5}) {
                CHECK.due("all else: " + what, x.stone(1, what), x.stone(0, what));
            }
            CHECK.due("LOAD", x.person(2, 6), half[0]);
        }
        StoneBacks y = Check.told("person 6 back 60 at 0;person 9 back 60 at 0;stone 5 of 0 to 1");
        y.lay(0);
        CHECK.due("of one set down", y.split(0), 1);
        CHECK.due("is set down", y.stone(1, 3), 1);
        CHECK.due("there", y.place(0, 3), 3);
    }

    private static void breakingRefused() {
        CHECK.of("IllegalStateException: it is paid, WEIGHT is 1, or there are 10 STONES.");
        StoneBacks x = Check.told("person 99 back 60 at 0;person 9 back 60 at 11;stone 4 of 0 to 1;stone 1 of 0 to 1"
                + ";stone 9 of 0 to 1".repeat(7));
        CHECK.noState("WEIGHT is 1", () -> x.split(1));
        CHECK.due("a tenth", x.split(0), 9);
        CHECK.noState("an 11th", () -> x.split(2));
        x.undo();
        x.pay(2);
        CHECK.noState("it is paid", () -> x.split(2));
        CHECK.due("a tenth", x.split(0), 9);
        CHECK.due("half of 4", x.stone(9, 2), 2);
        CHECK.of("IndexOutOfBoundsException: there is no such PERSON, STONE, PLACE.");
        for (int bad : new int[] {-1, 10, MIN, MAX}) {
            CHECK.noBounds("split(" + bad + ")", () -> x.split(bad));
        }
    }

    // ---- promise 14

    private static void passing() {
        CHECK.of("a STONE is passed on to another PERSON at the PLACE of its BEARER");
        StoneBacks x = Check.told("person 9 back 60 at 0;person 9 back 60 at 11;person 9 back 60 at 11;person 9 back 60 at 10;"
                + "stone 4 of 0 to 1 worn by 2;stone 5 of 1 to 2;stone 6 of 1 to 2;porch 11");
        CHECK.due("to its LENDER", x.pass(0, 1), 2);
        CHECK.due("BEARER", x.stone(0, 4), 1);
        CHECK.due("the DEBTOR stays", x.stone(0, 0), 0);
        CHECK.due("back", x.pass(0, 2), 1);
        CHECK.of("IllegalArgumentException: that one wears it; IllegalStateException: it is not worn, or that one is not there.");
        CHECK.noArgument("that one wears it", () -> x.pass(0, 2));
        CHECK.noState("its DEBTOR is not there", () -> x.pass(0, 0));
        CHECK.noState("a PLACE off", () -> x.pass(0, 3));
        x.lay(1);
        CHECK.noState("set down", () -> x.pass(1, 2));
        CHECK.noState("set down, by who wore it", () -> x.pass(1, 1));
        x.pay(2);
        CHECK.noState("paid", () -> x.pass(2, 2));
        CHECK.noState("paid, by who wore it", () -> x.pass(2, 1));
        CHECK.of("IndexOutOfBoundsException: there is no such PERSON, STONE, PLACE.");
        for (int bad : new int[] {-1, 4, MIN, MAX}) {
            CHECK.noBounds("pass(0, " + bad + ")", () -> x.pass(0, bad));
            CHECK.noBounds("pass(1, " + bad + ")", () -> x.pass(1, bad));
            CHECK.noBounds("pass(" + bad + ", " + bad + ")", () -> x.pass(bad, bad));
        }
        CHECK.noBounds("pass(3, 0)", () -> x.pass(3, 0));
    }

    // ---- promises 15 and 16

    private static void layingDown() {
        CHECK.of("a STONE is set down (in a PORCH, or at its LENDER's PLACE, where its BEARER is)");
        StoneBacks x = Check.told("person 9 back 60 at 0;person 9 back 60 at 11;person 9 back 60 at 5;person 9 back 60 at 5;"
                + "porch 0;stone 4 of 0 to 1;stone 5 of 2 to 3;stone 6 of 2 to 1;stone 7 of 0 to 2 worn by 3;"
                + "stone 8 of 2 to 0 worn by 3");
        CHECK.due("in a PORCH, without its LENDER", x.lay(0), 0);
        CHECK.due("at its LENDER's, without a PORCH", x.lay(1), 5);
        CHECK.due("by who wears it for another", x.lay(3), 5);
        CHECK.of("IllegalStateException: it is not worn, or it may not be set down there.");
        CHECK.noState("neither", () -> x.lay(2));
        CHECK.noState("its DEBTOR is there, its LENDER in a PORCH elsewhere", () -> x.lay(4));
        CHECK.noState("set down in a PORCH", () -> x.lay(0));
        CHECK.noState("set down at its LENDER's", () -> x.lay(1));
        x.pay(0);
        CHECK.noState("paid", () -> x.lay(0));
        StoneBacks y = Check.told("person 9 back 60 at 1;person 9 back 60 at 1;stone 4 of 0 to 1");
        y.pass(0, 1);
        CHECK.due("its LENDER wears it", y.lay(0), 1);
        CHECK.of("IndexOutOfBoundsException: there is no such PERSON, STONE, PLACE.");
        for (int bad : new int[] {-1, 5, MIN, MAX}) {
            CHECK.noBounds("lay(" + bad + ")", () -> x.lay(bad));
        }
    }

    private static void lifting() {
        CHECK.of("a STONE is lifted by a PERSON where it lies");
        StoneBacks x = Check.told("person 9 back 60 at 0;person 9 back 60 at 0;person 9 back 60 at 1;porch 0;porch 1;"
                + "stone 4 of 0 to 2;stone 5 of 0 to 2;stone 6 of 2 to 0;stone 3 of 1 to 0");
        x.lay(0);
        x.lay(1);
        CHECK.of("Lifted: LOAD of that one then.");
        CHECK.due("by another", x.lift(0, 1), 7);
        CHECK.due("by its DEBTOR", x.lift(1, 0), 5);
        x.lay(2);
        CHECK.due("by its DEBTOR alone there", x.lift(2, 2), 6);
        CHECK.of("IllegalStateException: it is not set down where that one is.");
        CHECK.noState("worn by that one", () -> x.lift(2, 2));
        CHECK.noState("worn by another there", () -> x.lift(0, 0));
        x.lay(1);
        CHECK.noState("a PLACE off", () -> x.lift(1, 2));
        x.pay(1);
        CHECK.noState("paid", () -> x.lift(1, 0));
        CHECK.of("IndexOutOfBoundsException: there is no such PERSON, STONE, PLACE.");
        for (int bad : new int[] {-1, 3, MIN, MAX}) {
            CHECK.noBounds("lift(1, " + bad + ")", () -> x.lift(1, bad));
        }
        for (int bad : new int[] {-1, 4, MIN, MAX}) {
            CHECK.noBounds("lift(" + bad + ", 0)", () -> x.lift(bad, 0));
            CHECK.noBounds("lift(" + bad + ", 9)", () -> x.lift(bad, 9));
        }
        // a LENDER may lift it, too
        StoneBacks y = Check.told("person 9 back 60 at 1;person 9 back 60 at 1;stone 4 of 0 to 1");
        y.lay(0);
        CHECK.due("by its LENDER", y.lift(0, 1), 4);
        CHECK.due("BEARER", y.stone(0, 4), 1);
    }

    // ---- promises 17 and 18

    private static void goals() {
        CHECK.of("A GOAL is told: what it was.");
        StoneBacks x = Check.told("person 9 back 60 at 4 goal 7;person 9 back 60 at 1");
        CHECK.due("to 0", x.goal(0, 0), 7);
        CHECK.due("to 11", x.goal(0, 11), 0);
        CHECK.due("to the same", x.goal(0, 11), 11);
        CHECK.due("it is one", x.person(0, 3), 11);
        CHECK.due("acts", x.count(13), 3);
        CHECK.due("the other's", x.person(1, 3), 1);
        CHECK.of("IndexOutOfBoundsException: there is no such PERSON, STONE, PLACE.");
        for (int bad : new int[] {-1, 2, MIN, MAX}) {
            CHECK.noBounds("goal(" + bad + ", 0)", () -> x.goal(bad, 0));
            CHECK.noBounds("rest(" + bad + ")", () -> x.rest(bad));
        }
        for (int bad : new int[] {-1, 12, MIN, MAX}) {
            CHECK.noBounds("goal(0, " + bad + ")", () -> x.goal(0, bad));
        }
    }

    private static void resting() {
        CHECK.of("a PERSON rests (TIRED is 0, no more HURT)");
        StoneBacks x = Check.told("person 9 back 60 at 4;person 9 back 60 at 1");
        CHECK.due("who is not TIRED", x.rest(0), 0);
        CHECK.due("an act all the same", x.count(13), 1);
        Check.law(x, "tire 99;hurt 99;hurt 1");
        x.hours(1);
        CHECK.of("A PERSON rests: TIRED that it was.");
        CHECK.due("99", x.rest(0), 99);
        CHECK.due("TIRED is 0", x.person(0, 4), 0);
        CHECK.due("no more HURT", x.person(0, 5), 0);
        CHECK.due("not BOWED", x.person(0, 11), 0);
        CHECK.due("the other's TIRED", x.person(1, 4), 99);
        CHECK.due("the other's HURT", x.person(1, 5), 1);
        x.undo();
        CHECK.due("HURT again", x.person(0, 5), 1);
    }

    // ---- promise 19

    private static void hours() {
        CHECK.of("So many HOURS more (1 to 100): how many got HURT in these. IllegalArgumentException: they are none.");
        StoneBacks x = Check.told("person 9 back 60 at 4" + ";person 9 back 60 at 1".repeat(5));
        for (int bad : new int[] {0, 101, -1, MIN, MAX}) {
            CHECK.noArgument("hours(" + bad + ")", () -> x.hours(bad));
        }
        CHECK.due("no HOUR by these", x.count(4), 0);
        CHECK.due("1", x.hours(1), 0);
        CHECK.due("HOUR", x.count(4), 1);
        CHECK.due("100", x.hours(100), 0);
        CHECK.due("HOUR", x.count(4), 101);
        CHECK.due("HOURS of one call are one", x.count(13), 2);
        Check.law(x, "hurt 99;hurt 1");
        CHECK.due("all", x.hours(1), 6);
        CHECK.due("who is HURT got HURT before", x.hours(1), 0);
        x.rest(4);
        CHECK.due("one again", x.hours(2), 1);
        CHECK.due("none without PEOPLE", new StoneBacks().hours(100), 0);
    }

    // ---- AN HOUR

    private static void earning() {
        CHECK.of("if it is at its GOAL, PURSE is what it EARNS more (9999 at most)");
        StoneBacks x = rich(9990);
        Check.law(x, "earn 8");
        x.hours(1);
        CHECK.due("9998", x.person(0, 0), 9998);
        Check.law(x, "earn 1");
        x.hours(1);
        CHECK.due("9999", x.person(0, 0), 9999);
        x.hours(1);
        CHECK.due("9999 at most", x.person(0, 0), 9999);
        StoneBacks y = rich(9900);
        Check.law(y, "earn 99;earn 1");
        y.hours(1);
        CHECK.due("10000 are 9999", y.person(0, 0), 9999);
        StoneBacks z = Check.told("person 0 back 1 at 4 goal 5;person 0 back 1 at 4;person 0 back 1 at 4;stone 2 of 1 to 0");
        Check.law(z, "earn 5");
        z.hours(1);
        CHECK.due("who comes to it earns not yet", z.person(0, 0), 0);
        CHECK.due("who is BOWED earns at its GOAL", z.person(1, 0), 5);
        Check.law(z, "earn 5;hurt 99;hurt 1");
        z.hours(2);
        CHECK.due("from the next HOUR on", z.person(0, 0), 10);
        CHECK.due("also HURT", z.person(2, 0), 15);
        CHECK.of("hour: HOUR modulo 24");
        StoneBacks u = Check.told("person 0 back 1 at 4;hour 23");
        Check.law(u, "earn 1 if hour>22;earn 20 if hour<1");
        u.hours(1);
        CHECK.due("HOUR 23 goes by", u.person(0, 0), 1);
        u.hours(1);
        CHECK.due("HOUR 24 goes by", u.person(0, 0), 21);
    }

    private static void walking() {
        CHECK.of("else, if it is not BOWED, it goes to the next PLACE toward its GOAL");
        StoneBacks x = Check.told("person 0 back 9 at 0 goal 11;person 0 back 9 at 11 goal 0;person 0 back 9 at 1 goal 2;"
                + "person 0 back 9 at 2 goal 1;stone 9 of 2 to 0;stone 10 of 3 to 0");
        Check.law(x, "");
        x.hours(1);
        CHECK.due("on", x.person(0, 2), 1);
        CHECK.due("back", x.person(1, 2), 10);
        CHECK.due("LOAD like BACK goes", x.person(2, 2), 2);
        CHECK.due("LOAD above BACK stays", x.person(3, 2), 2);
        x.hours(10);
        CHECK.due("11 PLACES in 11 HOURS", x.person(0, 2), 11);
        CHECK.due("11 PLACES back", x.person(1, 2), 0);
        x.hours(1);
        CHECK.due("not beyond its GOAL", x.person(0, 2), 11);
        CHECK.due("not beyond its GOAL", x.person(1, 2), 0);
        StoneBacks y = Check.told("person 0 back 9 at 3 goal 5;person 0 back 9 at 3 goal 5;person 0 back 9 at 3 goal 5");
        Check.law(y, "tire 98 if who<1;tire 99 if who>1;hurt 99 if who>0 and who<2;hurt 1 if who>0 and who<2");
        y.hours(1);
        CHECK.due("all go first", y.place(4, 2), 7);
        Check.law(y, "");
        y.hours(1);
        CHECK.due("TIRED 98 goes; TIRED 99 and HURT stay", y.place(5, 2), 1);
        CHECK.of("but not over THE BRIDGE with a LOAD above LIMIT");
        for (int load : new int[] {25, 26}) {
            StoneBacks z = Check.told("person 0 back 60 at 4 goal 7;person 0 back 60 at 7 goal 4;person 0 back 9 at 0;limit 25;"
                    + "stone " + load + " of 0 to 2;stone " + load + " of 1 to 2");
            Check.law(z, "");
            z.hours(1);
            CHECK.due("to 5 with " + load, z.person(0, 2), 5);
            CHECK.due("to 6 with " + load, z.person(1, 2), 6);
            z.hours(1);
            CHECK.due("from 5 with " + load, z.person(0, 2), load == 25 ? 6 : 5);
            CHECK.due("from 6 with " + load, z.person(1, 2), load == 25 ? 5 : 6);
            z.hours(1);
            CHECK.due("then with " + load, z.person(0, 2), load == 25 ? 7 : 5);
            CHECK.due("then back with " + load, z.person(1, 2), load == 25 ? 4 : 6);
        }
    }

    private static void tiring() {
        CHECK.of("(b) Each PERSON, by numbers, that is not HURT: TIRED is what it TIRES by more (99 at most)");
        StoneBacks x = Check.told("person 0 back 9 at 0");
        Check.law(x, "tire 49");
        x.hours(2);
        CHECK.due("98", x.person(0, 4), 98);
        Check.law(x, "tire 1");
        x.hours(1);
        CHECK.due("99", x.person(0, 4), 99);
        x.hours(1);
        CHECK.due("99 at most", x.person(0, 4), 99);
        x.rest(0);
        Check.law(x, "tire 99" + ";tire 99".repeat(11));
        x.hours(1);
        CHECK.due("1188 are 99", x.person(0, 4), 99);
        StoneBacks y = Check.told("person 0 back 9 at 0;person 0 back 9 at 0");
        Check.law(y, "tire 5;hurt 99 if who<1;hurt 1 if who<1");
        y.hours(2);
        CHECK.due("HURT in the first", y.person(0, 4), 5);
        CHECK.due("not HURT", y.person(1, 4), 10);
    }

    private static void hurting() {
        CHECK.of("then it is HURT, if DRAW modulo 100 is below what it HURTS by.");
        // the first DRAW from SEED 1 is 16838
        int[][] cases = {{0, 0}, {37, 0}, {38, 0}, {39, 1}, {99, 1}};
        for (int[] one : cases) {
            StoneBacks x = Check.told("person 0 back 9 at 0");
            Check.law(x, "hurt " + one[0]);
            CHECK.due("by " + one[0], x.hours(1), one[1]);
        }
        // 5758 and 10113 are next: PEOPLE draw by numbers, and who is HURT draws no more
        StoneBacks x = Check.told("person 0 back 9 at 0;person 0 back 9 at 0;person 0 back 9 at 0");
        Check.law(x, "hurt 14");
        CHECK.due("38, 58, 13: the third", x.hours(1), 1);
        CHECK.due("who", x.count(11), 4);
        StoneBacks y = Check.told("person 0 back 9 at 0;person 0 back 9 at 0");
        Check.law(y, "hurt 39 if who<1;hurt 14 if who>0");
        CHECK.due("38 the first, 58 and then 13 the second", y.hours(2), 2);
        // what it TIRED by in this HOUR counts
        StoneBacks z = Check.told("person 0 back 9 at 0");
        Check.law(z, "tire 2;hurt 99 if tired>1");
        CHECK.due("TIRED first", z.hours(1), 1);
        // without a text: LOAD 110 of BACK 9 is above 100, and always hurts
        StoneBacks u = Check.told("person 0 back 9 at 0;person 0 back 9 at 0;stone 40 of 0 to 1;stone 40 of 0 to 1;"
                + "stone 30 of 0 to 1");
        CHECK.due("by 101", u.hours(1), 1);
    }

    private static void hoursEnd() {
        CHECK.of("(c) HOUR is 1 more (9999 at most)");
        StoneBacks x = Check.told("person 7 back 9 at 0;hour 999;person 0 back 60 at 1");
        Check.law(x, "tire 1");
        for (int n = 0; n < 89; n++) {
            x.hours(100);
        }
        x.hours(99);
        CHECK.due("9998", x.count(4), 9998);
        x.rest(1);
        x.lend(0, 1, 7);
        x.hours(1);
        CHECK.due("9999", x.count(4), 9999);
        CHECK.due("TIRED by 1", x.person(1, 4), 1);
        x.hours(1);
        CHECK.due("9999 at most", x.count(4), 9999);
        x.hours(48);
        CHECK.due("9999 at most", x.count(4), 9999);
        CHECK.due("no day ends any more: TIRED", x.person(1, 4), 50);
        CHECK.due("no day ends any more: WEIGHT", x.stone(0, 2), 7);
        CHECK.due("hour is 15 then", by(x, "hour>14 and hour<16"), 1);
    }

    private static int by(StoneBacks x, String condition) {
        Check.law(x, "tire 1 if " + condition);
        return x.does(0, 0);
    }

    private static void days() {
        CHECK.of("if it is 0 modulo 24 then, each STONE that is not paid is 1 heavier (40 at most), and TIRED of each PERSON is "
                + "the half, rounded down.");
        StoneBacks x = Check.told("person 9 back 60 at 0;person 9 back 60 at 0;person 9 back 60 at 0;person 9 back 60 at 0;"
                + "hour 22;stone 39 of 0 to 1;stone 40 of 1 to 0;stone 1 of 0 to 1;stone 2 of 0 to 1");
        x.lay(2);
        x.pay(3);
        Check.law(x, "tire 49 if who<1;tire 3 if who>1;tire 1 if who>2;hurt 99 if who>2;hurt 1 if who>2");
        x.hours(1);
        CHECK.due("HOUR 23: WEIGHT", x.stone(0, 2), 39);
        CHECK.due("HOUR 23: TIRED", x.person(0, 4), 49);
        x.hours(1);
        CHECK.due("39 is 40", x.stone(0, 2), 40);
        CHECK.due("40 at most", x.stone(1, 2), 40);
        CHECK.due("one set down", x.stone(2, 2), 2);
        CHECK.due("a paid one is not", x.stone(3, 2), 2);
        CHECK.due("98 is 49", x.person(0, 4), 49);
        CHECK.due("0 is 0", x.person(1, 4), 0);
        CHECK.due("6 is 3", x.person(2, 4), 3);
        CHECK.due("of a HURT one, too: 4 is 2", x.person(3, 4), 2);
        x.hours(1);
        CHECK.due("HOUR 25: WEIGHT", x.stone(2, 2), 2);
        x.hours(23);
        CHECK.due("HOUR 48: WEIGHT", x.stone(2, 2), 3);
        CHECK.due("HOUR 48: 99 is 49", x.person(0, 4), 49);
        CHECK.due("HOUR 48: of a HURT one 2 is 1", x.person(3, 4), 1);
        StoneBacks y = Check.told("person 9 back 60 at 0;person 9 back 60 at 0;hour 24;stone 5 of 0 to 1");
        CHECK.due("an HOUR that is told makes no day", y.stone(0, 2), 5);
        StoneBacks z = Check.told("person 9 back 60 at 0;person 9 back 60 at 0;stone 5 of 0 to 1");
        z.hours(100);
        CHECK.due("four days", z.stone(0, 2), 9);
    }

    // ---- DRAW and promise 43

    private static int draw(int seed) {
        int lowest = 0;
        for (int hurts = 99; hurts > 0; hurts--) {
            StoneBacks x = Check.told("person 0 back 9 at 0");
            Check.law(x, "hurt " + hurts);
            x.seed(seed);
            if (x.hours(1) == 0) {
                lowest = hurts;
                break;
            }
        }
        return lowest;
    }

    private static void draws() {
        CHECK.of("DRAW: SEED is 1103515245 times SEED and 12345, as an int that goes round; bits 16 to 30");
        // by hand: 16838 of SEED 1, 0 of SEED 0 and of MIN, 15929 of MAX and of -1
        CHECK.due("SEED 1", draw(1), 38);
        CHECK.due("SEED 0: 12345 has no such bits", draw(0), 0);
        CHECK.due("SEED MIN: the top bit counts not", draw(MIN), 0);
        CHECK.due("SEED MAX", draw(MAX), 29);
        CHECK.due("SEED -1: the top bit counts not", draw(-1), 29);
        CHECK.of("SEED: what it was.");
        StoneBacks x = Check.told("person 0 back 9 at 0");
        CHECK.due("1 at first", x.seed(MIN), 1);
        CHECK.due("MIN", x.seed(MAX), MIN);
        CHECK.due("MAX", x.seed(-1), MAX);
        x.hours(1);
        CHECK.due("behind one DRAW", x.seed(MAX), -1103502900);
        x.hours(1);
        CHECK.due("behind one DRAW from MAX", x.seed(MIN), 1043980748);
        x.hours(1);
        CHECK.due("behind one DRAW from MIN", x.seed(0), MIN + 12345);
        CHECK.due("three acts: SEED is none", x.count(13), 3);
        StoneBacks y = Check.told("person 0 back 9 at 0;person 0 back 9 at 0");
        Check.law(y, "hurt 99 if who<1;hurt 1 if who<1");
        y.hours(1);
        CHECK.due("two have drawn, also by 0", y.seed(1), 1103515245 * 1103527590 + 12345);
        y.hours(1);
        CHECK.due("one of them is HURT and draws no more", y.seed(1), 1103527590);
    }
}
