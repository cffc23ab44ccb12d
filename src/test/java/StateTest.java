/** Promises 7 to 10 and 47: what is told of PEOPLE, STONES, PLACES and of all. */
public final class StateTest {
    private static final Check CHECK = new Check();
    private static final int MIN = Integer.MIN_VALUE;
    private static final int MAX = Integer.MAX_VALUE;

    public static void main(String[] args) {
        people();
        bowed();
        doing();
        stones();
        places();
        counts();
        wrong();
        CHECK.end();
    }

    private static StoneBacks some() {
        return Check.told("person 30 back 20 at 4 goal 6;person 40 back 10 at 4;person 50 back 60 at 0;"
                + "stone 7 of 0 to 1;stone 5 of 0 to 2 worn by 1;stone 40 of 2 to 0;stone 9 of 1 to 2;"
                + "porch 4;slope 4 3");
    }

    private static void people() {
        StoneBacks x = some();
        int[][] want = {
            {30, 20, 4, 6, 0, 0, 7, 1, 12, 40, 0, 0},
            {40, 10, 4, 4, 0, 0, 14, 10, 9, 7, 2, 1},
            {50, 60, 0, 0, 0, 0, 40, 4, 40, 14, 0, 0}};
        for (int p = 0; p < 3; p++) {
            for (int what = 0; what < 12; what++) {
                CHECK.due("person(" + p + ", " + what + ")", x.person(p, what), want[p][what]);
            }
        }
        x.pay(1);
        CHECK.due("a paid one is not worn", x.person(1, 7), 8);
        CHECK.due("nor borne", x.person(1, 10), 0);
        CHECK.due("nor owed", x.person(0, 8), 7);
        CHECK.due("nor due", x.person(2, 9), 9);
        x.lay(0);
        CHECK.due("one set down is not worn", x.person(0, 6), 0);
        CHECK.due("but owed", x.person(0, 8), 7);
        CHECK.due("and due", x.person(1, 9), 7);
        x.pass(3, 0);
        CHECK.due("borne for another", x.person(0, 10), 8);
        x.lift(0, 1);
        x.pass(3, 1);
        CHECK.due("borne for another", x.person(1, 10), 1);
        x.pass(3, 0);
        x.pass(0, 0);
        x.split(3);
        CHECK.due("two borne for another", x.person(0, 10), 8 + 16);
    }

    private static void bowed() {
        StoneBacks x = Check.told("person 1 back 10 at 0;person 1 back 10 at 0;person 1 back 9 at 0;"
                + "stone 10 of 0 to 2;stone 10 of 2 to 0");
        CHECK.due("a LOAD like BACK", x.person(0, 11), 0);
        CHECK.due("a LOAD above BACK", x.person(2, 11), 1);
        Check.law(x, "tire 98 if who<1;tire 99 if who>0 and not who>1");
        x.hours(1);
        CHECK.due("TIRED 98", x.person(0, 11), 0);
        CHECK.due("TIRED 99", x.person(1, 11), 1);
        x.rest(1);
        CHECK.due("rested", x.person(1, 11), 0);
        Check.law(x, "hurt 99;hurt 1");
        x.hours(1);
        CHECK.due("HURT", x.person(1, 5), 1);
        CHECK.due("bowed by it", x.person(1, 11), 1);
    }

    private static void doing() {
        StoneBacks x = Check.told("person 1 back 3 at 0;person 1 back 1 at 0;stone 40 of 0 to 1;stone 40 of 0 to 1;"
                + "stone 26 of 0 to 1;stone 7 of 1 to 0");
        CHECK.due("tires: LOAD 106 by 4", x.does(0, 0), 26);
        CHECK.due("earns 0 at least", x.does(0, 1), 0);
        CHECK.due("hurts above 100", x.does(0, 2), 103);
        CHECK.due("tires: 7 by 4", x.does(1, 0), 1);
        CHECK.due("earns: 10 less 1", x.does(1, 1), 9);
        CHECK.due("hurts: 7 less 1", x.does(1, 2), 6);
    }

    private static void stones() {
        StoneBacks x = some();
        int[][] want = {{0, 1, 7, 0, 0, 4}, {0, 2, 5, 0, 1, 4}, {2, 0, 40, 0, 2, 0}, {1, 2, 9, 0, 1, 4}};
        for (int s = 0; s < 4; s++) {
            for (int what = 0; what < 6; what++) {
                CHECK.due("stone(" + s + ", " + what + ")", x.stone(s, what), want[s][what]);
            }
        }
        x.lay(1);
        CHECK.due("set down", x.stone(1, 3), 1);
        CHECK.due("no bearer", x.stone(1, 4), -1);
        CHECK.due("where it lies", x.stone(1, 5), 4);
        x.pay(1);
        CHECK.due("paid", x.stone(1, 3), 2);
        CHECK.due("no bearer", x.stone(1, 4), -1);
        CHECK.due("no place", x.stone(1, 5), -1);
        CHECK.due("weight", x.stone(1, 2), 5);
        CHECK.due("debtor", x.stone(1, 0), 0);
    }

    private static void places() {
        StoneBacks x = some();
        x.lay(0);
        x.lay(3);
        int[] want = {3, 1, 3, 9};
        for (int what = 0; what < 4; what++) {
            CHECK.due("place(4, " + what + ")", x.place(4, what), want[what]);
        }
        CHECK.due("place(0, 2)", x.place(0, 2), 4);
        x.pay(0);
        CHECK.due("a paid one lies no more", x.place(4, 3), 8);
    }

    private static void counts() {
        StoneBacks x = some();
        Check.law(x, "tire 1");
        x.lay(0);
        x.pay(1);
        x.hours(1);
        int[] want = {3, 4, 1, 1, 1, 40, 120, 12, 1, 2, 56, 0, 2, 3, -1};
        for (int what = 0; what < want.length; what++) {
            CHECK.due("count(" + what + ")", x.count(what), want[what]);
        }
        CHECK.due("count(-1)", x.count(-1), -1);
        CHECK.due("count(MIN)", x.count(MIN), -1);
        CHECK.due("count(MAX)", x.count(MAX), -1);
        Check.law(x, "hurt 99;hurt 1");
        x.hours(1);
        CHECK.due("who is HURT", x.count(11), 7);
        x.rest(1);
        CHECK.due("who is HURT then", x.count(11), 5);
    }

    private static void wrong() {
        StoneBacks x = some();
        for (int bad : new int[] {-1, 3, 6, MIN, MAX}) {
            CHECK.noBounds("person(" + bad + ", 99)", () -> x.person(bad, 99));
            CHECK.noBounds("does(" + bad + ", 99)", () -> x.does(bad, 99));
        }
        for (int bad : new int[] {-1, 4, 10, MIN, MAX}) {
            CHECK.noBounds("stone(" + bad + ", 99)", () -> x.stone(bad, 99));
        }
        for (int bad : new int[] {-1, 12, MIN, MAX}) {
            CHECK.noBounds("place(" + bad + ", 99)", () -> x.place(bad, 99));
            CHECK.noElement("person(0, " + bad + ")", () -> x.person(0, bad));
            CHECK.noElement("does(0, " + bad + ")", () -> x.does(0, bad));
            CHECK.noElement("stone(0, " + bad + ")", () -> x.stone(0, bad));
            CHECK.noElement("place(0, " + bad + ")", () -> x.place(0, bad));
        }
        CHECK.noElement("does(0, 3)", () -> x.does(0, 3));
        CHECK.noElement("stone(0, 6)", () -> x.stone(0, 6));
        CHECK.noElement("place(0, 4)", () -> x.place(0, 4));
    }
}
