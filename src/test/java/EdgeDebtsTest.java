/** The edges of promises 26 and 28 to 31, sentence by sentence: what to pay, who owes by others, two choices, scales. */
public final class EdgeDebtsTest {
    private static final Check CHECK = new Check();
    private static final int MIN = Integer.MIN_VALUE;
    private static final int MAX = Integer.MAX_VALUE;

    public static void main(String[] args) {
        pays();
        owes();
        rests();
        restsRefused();
        scales();
        scalesOfHollow();
        scalesRefused();
        weighing();
        CHECK.end();
    }

    private static StoneBacks owing(int purse, int... weights) {
        StringBuilder text = new StringBuilder("person " + purse + " back 60 at 0;person 0 back 60 at 0");
        for (int weight : weights) {
            text.append(";stone ").append(weight).append(" of 0 to 1");
        }
        return Check.told(text.toString());
    }

    // ---- promise 26

    private static void paysOf(StoneBacks x, int set, int much) {
        CHECK.due("the set", x.pays(0, false), set);
        CHECK.due("how much", x.pays(0, true), much);
    }

    private static void pays() {
        CHECK.of("of sets of its STONES (as DEBTOR, not paid) whose WEIGHTS together are PURSE at most, the one of the most "
                + "together: of several the least as bits; how much.");
        paysOf(owing(99), 0, 0);
        paysOf(owing(0, 1), 0, 0);
        paysOf(owing(1, 1), 1, 1);
        paysOf(owing(6, 7), 0, 0);
        paysOf(owing(7, 7), 1, 7);
        paysOf(owing(7, 4, 4, 3), 5, 7);
        paysOf(owing(8, 4, 4, 3, 8), 3, 8);
        paysOf(owing(10, 5, 5, 10), 3, 10);
        paysOf(owing(9, 5, 5, 10), 1, 5);
        paysOf(owing(400, 40, 40, 40, 40, 40, 40, 40, 40, 40, 40), 1023, 400);
        paysOf(owing(399, 40, 40, 40, 40, 40, 40, 40, 40, 40, 40), 511, 360);
        StoneBacks x = owing(20, 5, 6, 7);
        x.lay(0);
        paysOf(x, 7, 18);
        x.pass(1, 1);
        paysOf(x, 7, 18);
        x.pay(0);
        paysOf(x, 6, 13);
        // whose STONES are not the first
        StoneBacks later = Check.told("person 0 back 60 at 0;person 1 back 60 at 0;stone 5 of 0 to 1;stone 5 of 1 to 0;stone 1 of 1 to 0");
        CHECK.due("1 of 1", later.pays(1, false), 4);
        later.pay(2);
        CHECK.due("5 of 0", later.pays(1, false), 0);
        later.lend(0, 1, 1);
        CHECK.due("1 of 1 that is new", later.pays(1, false), 8);
        StoneBacks heavy = Check.told("person 0 back 60 at 0;person 1 back 60 at 0;stone 5 of 0 to 1;stone 5 of 1 to 0");
        CHECK.due("5 of 1", heavy.pays(1, false), 0);
        CHECK.due("5 of 1: nothing", heavy.pays(1, true), 0);
        CHECK.due("the LENDER owes nothing", x.pays(1, false), 0);
        CHECK.due("though it wears one", x.pays(1, true), 0);
        CHECK.of("IndexOutOfBoundsException: there is no such PERSON, STONE, PLACE.");
        for (int bad : new int[] {-1, 2, MIN, MAX}) {
            CHECK.noBounds("pays(" + bad + ")", () -> x.pays(bad, false));
            CHECK.noBounds("pays(" + bad + ")", () -> x.pays(bad, true));
        }
    }

    // ---- promise 28

    private static void owes() {
        CHECK.of("BY OTHERS: whether one comes from a PERSON to another one by LENDERS of STONES not paid, from each to those it "
                + "owes.");
        String six = "person 9 back 9 at 0" + ";person 9 back 9 at 0".repeat(5);
        StoneBacks none = Check.told(six);
        CHECK.due("nobody owes", none.owes(0, 1), false);
        // a chain whose STONES stand against its order
        StoneBacks x = Check.told(six + ";stone 1 of 4 to 5;stone 1 of 3 to 4;stone 1 of 2 to 3;stone 1 of 1 to 2;stone 1 of 0 to 1");
        CHECK.due("by all the others", x.owes(0, 5), true);
        CHECK.due("not back", x.owes(5, 0), false);
        CHECK.due("by one", x.owes(4, 5), true);
        CHECK.due("not back", x.owes(1, 0), false);
        Check.valley(x, "stone 1 of 5 to 0");
        CHECK.due("round", x.owes(5, 4), true);
        CHECK.due("round", x.owes(1, 0), true);
        x.lay(2);
        CHECK.due("one set down is not paid", x.owes(0, 5), true);
        x.pay(2);
        CHECK.due("one is paid", x.owes(0, 5), false);
        CHECK.due("up to it", x.owes(0, 2), true);
        CHECK.due("from behind it", x.owes(3, 2), true);
        StoneBacks worn = Check.told(six + ";stone 1 of 0 to 1 worn by 2");
        CHECK.due("who wears it owes it not", worn.owes(2, 1), false);
        CHECK.of("BY OTHERS. IllegalArgumentException: both are one.");
        CHECK.noArgument("both are one", () -> x.owes(0, 0) ? 1 : 0);
        CHECK.noArgument("both are one", () -> x.owes(5, 5) ? 1 : 0);
        for (int bad : new int[] {-1, 6, MIN, MAX}) {
            CHECK.noBounds("owes(0, " + bad + ")", () -> x.owes(0, bad) ? 1 : 0);
            CHECK.noBounds("owes(" + bad + ", 0)", () -> x.owes(bad, 0) ? 1 : 0);
            CHECK.noBounds("owes(" + bad + ", " + bad + ")", () -> x.owes(bad, bad) ? 1 : 0);
        }
    }

    // ---- promise 29

    /** BACK less LOAD of PERSON 0 is this much. */
    private static StoneBacks room(int much) {
        int load = much < 20 ? 20 - much : 0;
        StringBuilder text = new StringBuilder("person 9 back " + (much < 20 ? 20 : much) + " at 0;person 9 back 9 at 0");
        for (int left = load; left > 0; left -= 40) {
            text.append(";stone ").append(Math.min(40, left)).append(" of 0 to 1");
        }
        return Check.told(text.toString());
    }

    private static void rests() {
        CHECK.of("Choices (2 times the LENDER's and the DEBTOR's) from which neither would have more by the other one of its own: "
                + "as bits.");
        // it wears the whole as long as BACK less LOAD less W is less 10 at least; it runs with the half, if that is as bad
        int[][] cases = {{0, 9, 1}, {0, 10, 1}, {0, 11, 0}, {0, 19, 0}, {0, 20, 8}, {0, 21, 8}, {0, 22, 8}, {5, 15, 1}, {5, 16, 0},
            {5, 29, 0}, {5, 30, 8}, {5, 31, 8}, {30, 40, 1}, {29, 40, 0}, {60, 40, 1}, {60, 1, 1}, {10, 39, 0}, {10, 40, 8}, {11, 40, 0}};
        for (int[] one : cases) {
            CHECK.due("room " + one[0] + ", W " + one[1], room(one[0]).rests(1, 0, one[1]), one[2]);
        }
        CHECK.due("a LOAD far above BACK, W 1", room(-40).rests(1, 0, 1), 8);
        CHECK.due("room -9, W 1", room(-9).rests(1, 0, 1), 1);
        CHECK.due("room -10, W 1: the half is 0", room(-10).rests(1, 0, 1), 8);
        CHECK.due("room -10, W 2", room(-10).rests(1, 0, 2), 8);
        CHECK.due("room -9, W 2", room(-9).rests(1, 0, 2), 8);
        CHECK.due("room -9, W 3: the half is 1", room(-9).rests(1, 0, 3), 8);
        CHECK.due("of the DEBTOR, not of the LENDER", room(-40).rests(0, 1, 19), 1);
        CHECK.due("of the DEBTOR, not of the LENDER", room(-40).rests(0, 1, 20), 0);
    }

    private static void restsRefused() {
        CHECK.of("RESTS, as bits. IllegalArgumentException: both are one, or W is none.");
        StoneBacks x = room(5);
        CHECK.due("W 1", x.rests(0, 1, 1), 1);
        CHECK.due("W 40", x.rests(0, 1, 40), 8);
        for (int bad : new int[] {0, 41, -1, MIN, MAX}) {
            CHECK.noArgument("rests(0, 1, " + bad + ")", () -> x.rests(0, 1, bad));
        }
        CHECK.noArgument("both are one", () -> x.rests(1, 1, 5));
        CHECK.noArgument("both are one, W is none", () -> x.rests(1, 1, 0));
        for (int bad : new int[] {-1, 2, MIN, MAX}) {
            CHECK.noBounds("rests(" + bad + ", 0, 5)", () -> x.rests(bad, 0, 5));
            CHECK.noBounds("rests(0, " + bad + ", 5)", () -> x.rests(0, bad, 5));
            CHECK.noBounds("rests(" + bad + ", " + bad + ", 0)", () -> x.rests(bad, bad, 0));
        }
    }

    // ---- promise 30

    private static int scales(StoneBacks x, boolean none, int... rows) {
        Check.rows(x, rows);
        return x.scales(none);
    }

    /** LOADS of 6 each: STONES 0 of 6, 1 of 6, 2 of 1 and 3 of 5; STONE 4 is set down, STONE 5 paid. */
    private static StoneBacks balanced() {
        StoneBacks x = Check.told("person 9 back 20 at 5;person 9 back 20 at 5;person 9 back 20 at 5;porch 5;"
                + "stone 6 of 0 to 1;stone 6 of 1 to 0;stone 1 of 2 to 0;stone 5 of 2 to 0;stone 9 of 2 to 1;stone 9 of 2 to 1");
        x.lay(4);
        x.pay(5);
        return x;
    }

    private static void scales() {
        CHECK.of("if one STONE that is worn by somebody is hollow (its WEIGHT counts for the half, rounded down), or none is");
        CHECK.due("without PEOPLE", new StoneBacks().scales(false), 0);
        CHECK.due("without PEOPLE none is", new StoneBacks().scales(true), 1);
        CHECK.due("no rows: all that are worn", scales(balanced(), false), 15);
        CHECK.due("no rows: none can be", scales(balanced(), true), 1);
        CHECK.due("neither sank", scales(balanced(), false, 0, 1, 1), 12);
        CHECK.due("neither sank: none can be", scales(balanced(), true, 0, 1, 1), 1);
        CHECK.due("left sank", scales(balanced(), false, 0, 1, 0), 2);
        CHECK.due("left sank: one is", scales(balanced(), true, 0, 1, 0), 0);
        CHECK.due("right sank", scales(balanced(), false, 0, 1, 2), 1);
        CHECK.due("the last against the first", scales(balanced(), false, 2, 0, 2), 12);
        CHECK.of("STONES that can be hollow, by all rows, as bits; whether it can be that none is.");
        CHECK.due("by both rows", scales(balanced(), false, 0, 1, 1, 0, 2, 0), 12);
        CHECK.due("by both rows none", scales(balanced(), false, 0, 1, 0, 0, 1, 2), 0);
        CHECK.due("not even that none is", scales(balanced(), true, 0, 1, 0, 0, 1, 2), 0);
    }

    private static void scalesOfHollow() {
        CHECK.of("(its WEIGHT counts for the half, rounded down)");
        // 1 counts for 0, 3 for 1: PERSON 0 wears the one, PERSON 1 nothing, PERSON 2 one of 1
        StoneBacks x = Check.told("person 0 back 20 at 5;person 0 back 20 at 5;person 0 back 20 at 5;"
                + "stone 1 of 0 to 1;stone 1 of 2 to 1");
        CHECK.due("1 counts for 0", scales(x, false, 0, 1, 1), 1);
        CHECK.due("and sinks by itself", scales(x, false, 0, 1, 0), 2);
        StoneBacks y = Check.told("person 0 back 20 at 5;person 0 back 20 at 5;person 0 back 20 at 5;"
                + "stone 3 of 0 to 1;stone 1 of 2 to 1");
        CHECK.due("3 counts for 1", scales(y, false, 0, 2, 1), 1);
        StoneBacks z = Check.told("person 0 back 20 at 5;person 0 back 20 at 5;person 0 back 20 at 5;"
                + "stone 40 of 0 to 1;stone 20 of 2 to 1");
        CHECK.due("40 counts for 20", scales(z, false, 0, 2, 1), 1);
        CHECK.due("20 counts for 10", scales(z, false, 0, 2, 0), 2);
        CHECK.due("nothing against nothing", scales(Check.told("person 0 back 1 at 0;person 0 back 1 at 0"), true, 0, 1, 1), 1);
        CHECK.due("nothing cannot sink", scales(Check.told("person 0 back 1 at 0;person 0 back 1 at 0"), true, 0, 1, 0), 0);
    }

    private static int[] sameRows(int bytes) {
        int[] rows = new int[bytes];
        for (int i = 0; i < bytes; i++) {
            rows[i] = i % 3 == 0 ? 0 : 1;
        }
        return rows;
    }

    private static void refusedRows(String what, int... rows) {
        StoneBacks x = balanced();
        CHECK.noArgument("scales(false): " + what, () -> scales(x, false, rows));
        CHECK.due("the TAPE is used up: " + what, Sight.tapeLength(x), 0);
        CHECK.noArgument("scales(true): " + what, () -> scales(x, true, rows));
        CHECK.due("the TAPE is used up: " + what, Sight.tapeLength(x), 0);
        Check.rows(x, rows);
        CHECK.noArgument("weigh(): " + what, () -> x.weigh());
        CHECK.due("the TAPE is used up: " + what, Sight.tapeLength(x), 0);
    }

    private static void scalesRefused() {
        CHECK.of("of each three bytes: left, right, 0 to 2; 36 bytes at most");
        CHECK.due("36 bytes", scales(balanced(), false, sameRows(36)), 12);
        refusedRows("37 bytes", sameRows(37));
        refusedRows("38 bytes", sameRows(38));
        refusedRows("39 bytes", sameRows(39));
        refusedRows("40 bytes", sameRows(40));
        refusedRows("400 bytes", sameRows(400));
        refusedRows("1 byte", 0);
        refusedRows("2 bytes", 0, 1);
        refusedRows("4 bytes", 0, 1, 1, 0);
        refusedRows("35 bytes", sameRows(35));
        refusedRows("3 is no side", 0, 1, 3);
        refusedRows("255 is no side", 0, 1, 255);
        refusedRows("128 is no side", 0, 1, 128);
        refusedRows("a later row", 0, 1, 1, 0, 1, 3);
        CHECK.of("IllegalArgumentException: the TAPE is not that (there are no such PEOPLE, or both are one; none may be told).");
        refusedRows("left is none", 3, 1, 1);
        refusedRows("right is none", 0, 3, 1);
        refusedRows("left is 255", 255, 1, 1);
        refusedRows("right is 255", 0, 255, 1);
        refusedRows("left is 128", 128, 1, 1);
        refusedRows("both are one", 1, 1, 1);
        refusedRows("both are none", 3, 3, 1);
        refusedRows("a text", '0', '1', '1');
        refusedRows("a later row", 0, 1, 1, 0, 1, 1, 2, 2, 1);
        CHECK.due("the last two", scales(balanced(), false, 2, 1, 1), 1);
        CHECK.due("none may be told", scales(balanced(), true), 1);
        StoneBacks used = balanced();
        CHECK.due("a right one uses the TAPE up", scales(used, true, 0, 1, 1), 1);
        CHECK.due("the TAPE", Sight.tapeLength(used), 0);
        Check.rows(used, 0, 1, 1);
        used.weigh();
        CHECK.due("the TAPE", Sight.tapeLength(used), 0);
    }

    // ---- promise 31

    private static int weigh(StoneBacks x, int... rows) {
        Check.rows(x, rows);
        return x.weigh();
    }

    private static void weighing() {
        CHECK.of("WEIGH: the two (10 times the lesser number and the greater one) by which the cases that can be are parted (left, "
                + "neither, right) so that the greatest part is the least (of several the least; none with fewer than two cases, or "
                + "PEOPLE).");
        CHECK.due("without PEOPLE", weigh(new StoneBacks()), -1);
        CHECK.due("one PERSON", weigh(Check.told("person 0 back 1 at 0")), -1);
        CHECK.due("two PEOPLE, one case", weigh(Check.told("person 0 back 1 at 0;person 0 back 1 at 0")), -1);
        String two = "person 0 back 9 at 0;person 0 back 9 at 0;";
        CHECK.due("two cases", weigh(Check.told(two + "stone 2 of 0 to 1")), 1);
        CHECK.due("none is left of two", weigh(Check.told(two + "stone 2 of 0 to 1"), 0, 1, 2), -1);
        CHECK.due("one of two cases", weigh(Check.told(two + "stone 1 of 0 to 1"), 0, 1, 1), -1);
        CHECK.due("two cases that nothing parts: the least", weigh(Check.told(two + "stone 2 of 0 to 1"), 0, 1, 0), 1);
        // STONES 0, 1, 2, 3 and none: 0 1 parts 1 3 1; 0 2 and 1 2 part 2 2 1
        CHECK.due("of several the least", weigh(balanced()), 2);
        CHECK.due("cases 2, 3 and none", weigh(balanced(), 0, 1, 1), 2);
        CHECK.due("cases 2 and 3", weigh(balanced(), 0, 2, 0, 0, 1, 1), 1);
        String six = "person 0 back 9 at 0" + ";person 0 back 9 at 0".repeat(5);
        CHECK.due("the greatest two", weigh(Check.told(six + ";stone 8 of 4 to 0;stone 8 of 5 to 0")), 45);
        // all ten STONES and none: eleven cases, of which 0 and 1 part 5 1 5
        StringBuilder ten = new StringBuilder(two.substring(0, two.length() - 1));
        for (int s = 0; s < 10; s++) {
            ten.append(";stone 4 of ").append(s % 2).append(" to ").append(1 - s % 2);
        }
        CHECK.due("eleven cases", weigh(Check.told(ten.toString())), 1);
        CHECK.due("one side of them", weigh(Check.told(ten.toString()), 0, 1, 0), 1);
        String three = "person 0 back 9 at 0;person 0 back 9 at 0;person 0 back 9 at 0;";
        // cases 0, 1, 2 and none: by 0 and 1, as by 0 and 2, three are on one side; by 1 and 2: 1 2 1
        CHECK.due("not the first", weigh(Check.told(three + "stone 7 of 0 to 1;stone 8 of 1 to 0;stone 8 of 2 to 0")), 12);
        // by 0 and 1 all three cases are right, by the others left
        CHECK.due("nothing parts: the least", weigh(Check.told(three + "stone 10 of 0 to 1;stone 40 of 1 to 0")), 1);
        // by 0 and 1: 1 is neither, 0 and none are right; by 1 and 2 all three are parted
        CHECK.due("each STONE is a case", weigh(Check.told(three + "stone 1 of 2 to 0;stone 1 of 1 to 0")), 12);
        // by 0 and 1: 1 is neither, 0 and none are left; by 0 and 2 all three are parted
        CHECK.due("the left part counts whole", weigh(Check.told(three + "stone 1 of 2 to 1;stone 1 of 0 to 1")), 2);
        // nobody else can be weighed: against nothing the STONE of 1 would be told from the others
        CHECK.due("only PEOPLE that there are", weigh(Check.told(two + "stone 1 of 0 to 1;stone 40 of 1 to 0;stone 40 of 1 to 0")), 1);
    }
}
