/** Promises 11 to 19 and 43: the ACTS, HOURS and SEED. */
public final class ActsTest {
    private static final Check CHECK = new Check();
    private static final int MIN = Integer.MIN_VALUE;
    private static final int MAX = Integer.MAX_VALUE;

    public static void main(String[] args) {
        lending();
        lendingWrong();
        paying();
        breaking();
        passing();
        layingAndLifting();
        goalAndRest();
        walking();
        earning();
        tiring();
        hurting();
        gravel();
        lateHours();
        seeds();
        throwsChangeNothing();
        CHECK.end();
    }

    private static void lending() {
        StoneBacks x = Check.told("person 100 back 20 at 0;person 7 back 20 at 11");
        CHECK.due("lend", x.lend(0, 1, 40), 0);
        CHECK.due("lender's purse", x.person(0, 0), 60);
        CHECK.due("other's purse", x.person(1, 0), 47);
        int[] want = {1, 0, 40, 0, 1, 11};
        for (int what = 0; what < 6; what++) {
            CHECK.due("lent: stone(0, " + what + ")", x.stone(0, what), want[what]);
        }
        CHECK.due("all of a purse", x.lend(1, 0, 7), 1);
        CHECK.due("lend of 1", x.lend(0, 1, 1), 2);
        CHECK.due("all of the rest", x.lend(1, 0, 40), 3);
        CHECK.due("purse", x.person(1, 0), 1);
        // PURSES come to 9999 at most
        StoneBacks y = Check.told("person 999 back 60 at 0;person 999 back 60 at 0");
        Check.law(y, "earn 99 if who<1");
        y.hours(91);
        CHECK.due("purse", y.person(0, 0), 9999);
        CHECK.due("lend to a full one", y.lend(1, 0, 9), 0);
        CHECK.due("9999 at most", y.person(0, 0), 9999);
        CHECK.due("the lender has less", y.person(1, 0), 990);
    }

    private static void lendingWrong() {
        StoneBacks x = Check.told("person 39 back 20 at 0;person 0 back 20 at 1");
        CHECK.noBounds("lend(2, 2, 0)", () -> x.lend(2, 2, 0));
        CHECK.noBounds("lend(0, -1, 0)", () -> x.lend(0, -1, 0));
        CHECK.noBounds("lend(-1, 0, 5)", () -> x.lend(-1, 0, 5));
        CHECK.noBounds("lend(MAX, MIN, 5)", () -> x.lend(MAX, MIN, 5));
        CHECK.noArgument("lend(0, 0, 5)", () -> x.lend(0, 0, 5));
        CHECK.noArgument("lend(0, 1, 0)", () -> x.lend(0, 1, 0));
        CHECK.noArgument("lend(0, 1, 41)", () -> x.lend(0, 1, 41));
        CHECK.noArgument("lend(1, 0, MIN)", () -> x.lend(1, 0, MIN));
        CHECK.noState("lend(0, 1, 40)", () -> x.lend(0, 1, 40));
        CHECK.noState("lend(1, 0, 1)", () -> x.lend(1, 0, 1));
        for (int i = 0; i < 10; i++) {
            CHECK.due("lend " + i, x.lend(0, 1, 1), i);
        }
        CHECK.noState("an 11th STONE", () -> x.lend(0, 1, 1));
        CHECK.noState("an 11th STONE by breaking", () -> x.split(0));
        CHECK.noArgument("weight before the 11th", () -> x.lend(0, 1, 0));
        x.pay(0);
        CHECK.noState("a paid one counts too", () -> x.lend(0, 1, 1));
    }

    private static void paying() {
        StoneBacks x = Check.told("person 10 back 20 at 0;person 7 back 20 at 1;person 0 back 5 at 0;"
                + "stone 4 of 0 to 1;stone 7 of 0 to 2 worn by 1;stone 6 of 0 to 1");
        CHECK.due("pay", x.pay(0), 6);
        CHECK.due("lender", x.person(1, 0), 11);
        CHECK.noState("twice", () -> x.pay(0));
        CHECK.noState("too little", () -> x.pay(1));
        CHECK.due("to the last", x.pay(2), 0);
        CHECK.noBounds("pay(3)", () -> x.pay(3));
        CHECK.noBounds("pay(-1)", () -> x.pay(-1));
        x.lend(1, 0, 9);
        CHECK.due("one worn by another", x.pay(1), 2);
        CHECK.due("its lender", x.person(2, 0), 7);
        CHECK.due("it is worn no more", x.person(1, 6), 0);
        // one that is set down can be paid; the LENDER has 9999 at most
        StoneBacks y = Check.told("person 999 back 60 at 0;person 999 back 60 at 0;stone 5 of 1 to 0");
        Check.law(y, "earn 99 if who<1");
        y.hours(20);
        CHECK.due("lay", y.lay(0), 0);
        y.hours(71);
        CHECK.due("purse", y.person(0, 0), 9999);
        CHECK.due("pay (three days' gravel)", y.pay(0), 991);
        CHECK.due("9999 at most", y.person(0, 0), 9999);
    }

    private static void breaking() {
        StoneBacks x = Check.told("person 10 back 20 at 0;person 7 back 20 at 1;person 0 back 5 at 0;porch 0;"
                + "stone 7 of 0 to 1 worn by 2;stone 1 of 0 to 2;stone 2 of 1 to 0;stone 9 of 0 to 1");
        CHECK.due("split", x.split(0), 4);
        int[] want = {0, 1, 3, 0, 2, 0};
        for (int what = 0; what < 6; what++) {
            CHECK.due("the new one: " + what, x.stone(4, what), want[what]);
        }
        CHECK.due("the rest stays", x.stone(0, 2), 4);
        CHECK.noState("weight 1", () -> x.split(1));
        CHECK.due("weight 2", x.split(2), 5);
        CHECK.due("half of 2", x.stone(5, 2), 1);
        x.lay(3);
        CHECK.due("one set down", x.split(3), 6);
        CHECK.due("its half lies too", x.stone(6, 3), 1);
        CHECK.due("its half lies there", x.stone(6, 5), 0);
        x.pay(3);
        CHECK.noState("a paid one", () -> x.split(3));
        CHECK.due("the other half is not paid", x.stone(6, 3), 1);
        CHECK.noBounds("split(7)", () -> x.split(7));
        CHECK.noBounds("split(MIN)", () -> x.split(MIN));
    }

    private static void passing() {
        StoneBacks x = Check.told("person 10 back 20 at 3;person 7 back 20 at 3;person 0 back 5 at 4;porch 3;"
                + "stone 7 of 0 to 1;stone 5 of 0 to 2;stone 6 of 0 to 2");
        CHECK.due("pass to the LENDER", x.pass(0, 1), 0);
        CHECK.due("bearer", x.stone(0, 4), 1);
        CHECK.due("debtor", x.stone(0, 0), 0);
        CHECK.noArgument("to the one that wears it", () -> x.pass(0, 1));
        CHECK.noState("to one elsewhere", () -> x.pass(1, 2));
        CHECK.noBounds("to nobody", () -> x.pass(1, 3));
        CHECK.noBounds("none", () -> x.pass(3, 3));
        x.lay(1);
        CHECK.noState("one set down", () -> x.pass(1, 0));
        x.pay(2);
        CHECK.noState("a paid one", () -> x.pass(2, 0));
        CHECK.noState("a paid one", () -> x.pass(2, 1));
        CHECK.due("back", x.pass(0, 0), 1);
    }

    private static void layingAndLifting() {
        StoneBacks x = Check.told("person 10 back 20 at 3;person 7 back 20 at 3;person 0 back 5 at 4;porch 5;"
                + "stone 7 of 0 to 1;stone 5 of 0 to 2;stone 6 of 2 to 1;stone 1 of 1 to 0");
        CHECK.due("at its LENDER's PLACE", x.lay(0), 3);
        CHECK.noState("twice", () -> x.lay(0));
        CHECK.noState("neither PORCH nor LENDER", () -> x.lay(1));
        CHECK.noState("its LENDER is elsewhere", () -> x.lay(2));
        x.goal(2, 5);
        CHECK.due("an hour", x.hours(1), 0);
        CHECK.due("walked", x.person(2, 2), 4);
        x.pass(1, 1);
        x.undo();
        x.undo();
        CHECK.noState("lift elsewhere", () -> x.lift(0, 2));
        CHECK.due("lift", x.lift(0, 1), 8);
        CHECK.noState("lift one that is worn", () -> x.lift(0, 1));
        x.pay(3);
        CHECK.noState("lift a paid one", () -> x.lift(3, 0));
        CHECK.noState("lay a paid one", () -> x.lay(3));
        CHECK.noBounds("lift(4, 0)", () -> x.lift(4, 0));
        CHECK.noBounds("lift(0, 3)", () -> x.lift(0, 3));
        CHECK.noBounds("lay(4)", () -> x.lay(4));
        CHECK.noBounds("lay(-1)", () -> x.lay(-1));
        StoneBacks y = Check.told("person 10 back 20 at 5;person 7 back 20 at 3;porch 5;stone 7 of 0 to 1");
        CHECK.due("in a PORCH", y.lay(0), 5);
        CHECK.noState("not where it lies", () -> y.lift(0, 1));
        CHECK.due("lift", y.lift(0, 0), 7);
        CHECK.due("bearer", y.stone(0, 4), 0);
    }

    private static void goalAndRest() {
        StoneBacks x = Check.told("person 10 back 20 at 3;person 7 back 1 at 3 goal 9");
        CHECK.due("goal", x.goal(1, 11), 9);
        CHECK.due("goal", x.goal(1, 0), 11);
        CHECK.due("goal", x.person(1, 3), 0);
        CHECK.noBounds("goal(2, 0)", () -> x.goal(2, 0));
        CHECK.noBounds("goal(0, 12)", () -> x.goal(0, 12));
        CHECK.noBounds("goal(0, -1)", () -> x.goal(0, -1));
        CHECK.noBounds("rest(2)", () -> x.rest(2));
        CHECK.noBounds("rest(-1)", () -> x.rest(-1));
        Check.law(x, "tire 9;hurt 99;hurt 1");
        CHECK.due("hurt", x.hours(1), 2);
        CHECK.due("rest", x.rest(0), 9);
        CHECK.due("TIRED is 0", x.person(0, 4), 0);
        CHECK.due("no more HURT", x.person(0, 5), 0);
        CHECK.due("the other one is", x.person(1, 5), 1);
        CHECK.due("rest again", x.rest(0), 0);
        CHECK.due("each is an act", x.count(13), 3);
    }

    private static void walking() {
        StoneBacks x = Check.told("person 0 back 60 at 4 goal 7;person 0 back 60 at 8 goal 4;person 0 back 10 at 1 goal 2;"
                + "person 0 back 60 at 0 goal 11;stone 26 of 0 to 3;stone 25 of 1 to 3;stone 11 of 2 to 3;limit 25;"
                + "slope 5 3");
        Check.law(x, "");
        x.hours(1);
        CHECK.due("to 5", x.person(0, 2), 5);
        CHECK.due("to 7", x.person(1, 2), 7);
        CHECK.due("a bowed one stays", x.person(2, 2), 1);
        x.hours(2);
        CHECK.due("not over THE BRIDGE", x.person(0, 2), 5);
        CHECK.due("over THE BRIDGE with LIMIT", x.person(1, 2), 5);
        x.hours(1);
        CHECK.due("to its GOAL", x.person(1, 2), 4);
        x.hours(8);
        CHECK.due("to the end", x.person(3, 2), 11);
        CHECK.due("it stays", x.person(1, 2), 4);
        CHECK.due("purses", x.count(6), 0);
        // back over THE BRIDGE the other way
        StoneBacks y = Check.told("person 0 back 60 at 7 goal 4;person 0 back 60 at 0;stone 26 of 0 to 1;limit 25");
        Check.law(y, "");
        y.hours(5);
        CHECK.due("nor back over it", y.person(0, 2), 6);
    }

    private static void earning() {
        StoneBacks x = Check.told("person 0 back 60 at 0 goal 2;person 990 back 1 at 3;stone 9 of 1 to 0");
        CHECK.due("hurts by 8", x.does(1, 2), 8);
        x.hours(2);
        CHECK.due("not in the HOUR in which one comes", x.person(0, 0), 0);
        CHECK.due("bowed at its GOAL, it earns", x.person(1, 0), 1006);
        x.hours(1);
        CHECK.due("then", x.person(0, 0), 10);
        Check.law(x, "earn 99;earn 99;earn 99");
        x.hours(40);
        CHECK.due("9999 at most", x.person(1, 0), 9999);
    }

    private static void tiring() {
        StoneBacks x = Check.told("person 0 back 60 at 0;person 0 back 60 at 0;stone 9 of 0 to 1;hour 1");
        x.hours(2);
        CHECK.due("2 each", x.person(0, 4), 4);
        CHECK.due("0 each", x.person(1, 4), 0);
        Check.law(x, "tire 3;tire 20 if tired>5");
        x.hours(1);
        CHECK.due("3", x.person(0, 4), 7);
        x.hours(1);
        CHECK.due("23", x.person(0, 4), 30);
        x.hours(4);
        CHECK.due("99 at most", x.person(0, 4), 99);
        x.hours(14);
        CHECK.due("HOUR 23", x.count(4), 23);
        CHECK.due("still", x.person(0, 4), 99);
        x.hours(1);
        CHECK.due("the half, rounded down", x.person(0, 4), 49);
    }

    private static void hurting() {
        // by hand: SEED 1 gives 1103527590, bits 16 to 30 of it 16838
        StoneBacks x = Check.told("person 0 back 60 at 0;person 0 back 60 at 0");
        Check.law(x, "hurt 39");
        CHECK.due("16838 modulo 100 is 38, below 39", x.trial(1, true) & 1, 1);
        Check.law(x, "hurt 38");
        CHECK.due("38 is not below 38", x.trial(1, true) & 1, 0);
        Draws draws = new Draws(1);
        Check.law(x, "hurt 3");
        int want = 0;
        int hour = 0;
        for (int i = 0; i < 100; i++) {
            hour++;
            for (int p = 0; p < 2; p++) {
                if ((want >> p & 1) == 0 && draws.next() % 100 < 3) {
                    want |= 1 << p;
                }
            }
        }
        CHECK.due("hours", x.hours(hour), Integer.bitCount(want));
        CHECK.due("who", x.count(11), want);
        CHECK.due("seed", x.seed(1), draws.seed);
        // the HURT ones tire no more, and draw no more; TIRED of the same HOUR counts for the hurt
        StoneBacks y = Check.told("person 0 back 60 at 0;person 0 back 60 at 0");
        Check.law(y, "tire 2;hurt 99 if tired>1 and who<1;hurt 1 if who<1");
        CHECK.due("one", y.hours(3), 1);
        CHECK.due("who", y.count(11), 1);
        CHECK.due("tires no more", y.person(0, 4), 2);
        CHECK.due("the other does", y.person(1, 4), 6);
        draws = new Draws(1);
        for (int i = 0; i < 4; i++) {
            draws.next();
        }
        CHECK.due("four draws", y.seed(7), draws.seed);
        y.hours(21);
        CHECK.due("the half of a HURT one too", y.person(0, 4), 1);
    }

    private static void gravel() {
        StoneBacks x = Check.told("person 9 back 60 at 0;person 0 back 60 at 0;hour 23;"
                + "stone 39 of 0 to 1;stone 40 of 0 to 1;stone 5 of 0 to 1;stone 5 of 0 to 1");
        x.lay(2);
        x.pay(3);
        x.hours(1);
        CHECK.due("1 heavier", x.stone(0, 2), 40);
        CHECK.due("40 at most", x.stone(1, 2), 40);
        CHECK.due("set down", x.stone(2, 2), 6);
        CHECK.due("paid", x.stone(3, 2), 5);
        x.hours(23);
        CHECK.due("not yet", x.stone(2, 2), 6);
        x.hours(1);
        CHECK.due("the next day", x.stone(2, 2), 7);
        CHECK.due("HOUR", x.count(4), 48);
        CHECK.noArgument("hours(0)", () -> x.hours(0));
        CHECK.noArgument("hours(-1)", () -> x.hours(-1));
        CHECK.noArgument("hours(101)", () -> x.hours(101));
        CHECK.noArgument("hours(MIN)", () -> x.hours(MIN));
        CHECK.noArgument("hours(MAX)", () -> x.hours(MAX));
        x.hours(100);
        CHECK.due("HOUR", x.count(4), 148);
    }

    private static void lateHours() {
        StoneBacks x = Check.told("person 0 back 60 at 0;person 0 back 60 at 0;hour 999;stone 1 of 0 to 1");
        Check.law(x, "");
        for (int i = 0; i < 90; i++) {
            x.hours(100);
        }
        CHECK.due("HOUR", x.count(4), 9999);
        CHECK.due("weight", x.stone(0, 2), 40);
        x.hours(100);
        CHECK.due("9999 at most", x.count(4), 9999);
    }

    private static void seeds() {
        StoneBacks x = new StoneBacks();
        CHECK.due("1 at first", x.seed(MIN), 1);
        CHECK.due("what it was", x.seed(MAX), MIN);
        CHECK.due("what it was", x.seed(-1), MAX);
        CHECK.due("no act", x.count(13), 0);
    }

    private static void throwsChangeNothing() {
        StoneBacks x = Check.told("person 5 back 20 at 0;person 7 back 20 at 1;stone 9 of 0 to 1");
        CHECK.noState("pay", () -> x.pay(0));
        CHECK.noState("lay", () -> x.lay(0));
        CHECK.noState("lift", () -> x.lift(0, 0));
        CHECK.noState("pass", () -> x.pass(0, 1));
        CHECK.noState("lend", () -> x.lend(0, 1, 6));
        CHECK.due("no acts", x.count(13), 0);
        CHECK.due("no rows", x.count(12), 0);
        CHECK.due("purses", x.count(6), 12);
    }

    /** The draws as the document tells them, in long arithmetic. */
    static final class Draws {
        int seed;

        Draws(int seed) {
            this.seed = seed;
        }

        int next() {
            long product = 1103515245L * seed + 12345L;
            seed = (int) (product & 0xffffffffL);
            return (int) ((seed & 0xffffffffL) / 65536 % 32768);
        }
    }
}
