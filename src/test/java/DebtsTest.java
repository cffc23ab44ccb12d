/** Promises 26 and 28 to 31: what to pay, who owes by others, what two choose, the scales. */
public final class DebtsTest {
    private static final Check CHECK = new Check();
    private static final int MIN = Integer.MIN_VALUE;
    private static final int MAX = Integer.MAX_VALUE;

    public static void main(String[] args) {
        pays();
        owes();
        rests();
        scales();
        scalesWrong();
        weighing();
        CHECK.end();
    }

    private static void pays() {
        StoneBacks x = Check.told("person 15 back 20 at 5;person 0 back 60 at 5;person 900 back 9 at 5;"
                + "stone 8 of 0 to 1;stone 9 of 0 to 1;stone 6 of 0 to 1 worn by 2;stone 7 of 0 to 1;"
                + "stone 4 of 1 to 0;stone 40 of 2 to 0;stone 40 of 2 to 1;porch 5");
        // 15 by 8 and 7 (9), 9 and 6 (6)
        CHECK.due("the set", x.pays(0, false), 6);
        CHECK.due("how much", x.pays(0, true), 15);
        CHECK.due("an empty purse", x.pays(1, false), 0);
        CHECK.due("an empty purse", x.pays(1, true), 0);
        CHECK.due("all", x.pays(2, false), 96);
        CHECK.due("all", x.pays(2, true), 80);
        x.lay(1);
        CHECK.due("set down", x.pays(0, false), 6);
        x.pay(2);
        CHECK.due("9 left: 9", x.pays(0, false), 2);
        x.pay(1);
        CHECK.due("0 left", x.pays(0, true), 0);
        CHECK.noBounds("pays(3)", () -> x.pays(3, true));
        CHECK.noBounds("pays(-1)", () -> x.pays(-1, false));
    }

    private static void owes() {
        StoneBacks x = Check.told("person 15 back 20 at 5;" + "person 15 back 60 at 5;".repeat(4)
                + "person 5 back 5 at 5;stone 1 of 4 to 3;stone 1 of 3 to 2;stone 1 of 2 to 1;stone 1 of 1 to 0;"
                + "stone 1 of 5 to 4;stone 1 of 1 to 4");
        CHECK.due("by all", x.owes(5, 0), true);
        CHECK.due("not back", x.owes(0, 5), false);
        CHECK.due("round", x.owes(1, 4), true);
        CHECK.due("round", x.owes(4, 1), true);
        CHECK.due("nobody", x.owes(0, 1), false);
        x.pay(3);
        CHECK.due("paid", x.owes(5, 0), false);
        CHECK.due("till there", x.owes(5, 1), true);
        CHECK.noBounds("owes(6, 6)", () -> x.owes(6, 6) ? 1 : 0);
        CHECK.noBounds("owes(0, -1)", () -> x.owes(0, -1) ? 1 : 0);
        CHECK.noArgument("owes(3, 3)", () -> x.owes(3, 3) ? 1 : 0);
    }

    private static void rests() {
        // BACK less LOAD is 5
        StoneBacks x = Check.told("person 15 back 20 at 5;person 15 back 9 at 5;stone 15 of 0 to 1");
        CHECK.due("5 less 14 is above less 10", x.rests(1, 0, 14), 1);
        CHECK.due("5 less 15 is less 10: neither has more by running", x.rests(1, 0, 15), 1);
        CHECK.due("5 less 16 is below; the half is worn", x.rests(1, 0, 16), 0);
        CHECK.due("5 less 20 for the half, too", x.rests(1, 0, 40), 8);
        CHECK.due("half 15 is less 10", x.rests(1, 0, 30), 8);
        CHECK.due("half 14 is above", x.rests(1, 0, 29), 0);
        CHECK.due("W 1: half 0", x.rests(1, 0, 1), 1);
        CHECK.due("without a LOAD", x.rests(0, 1, 19), 1);
        CHECK.due("20 of 9", x.rests(0, 1, 20), 0);
        CHECK.noBounds("rests(2, 2, 0)", () -> x.rests(2, 2, 0));
        CHECK.noBounds("rests(0, -1, 1)", () -> x.rests(0, -1, 1));
        CHECK.noArgument("rests(1, 1, 1)", () -> x.rests(1, 1, 1));
        for (int bad : new int[] {0, 41, -1, MIN, MAX}) {
            CHECK.noArgument("rests(0, 1, " + bad + ")", () -> x.rests(0, 1, bad));
        }
    }

    private static StoneBacks balanced() {
        return Check.told("person 0 back 20 at 5;person 0 back 20 at 5;person 0 back 20 at 5;porch 5;"
                + "stone 6 of 0 to 1;stone 6 of 1 to 0;stone 1 of 2 to 0;stone 5 of 2 to 0;stone 9 of 2 to 1;"
                + "stone 9 of 2 to 1");
    }

    private static int scales(StoneBacks x, boolean none, int... rows) {
        Check.rows(x, rows);
        return x.scales(none);
    }

    private static void scales() {
        StoneBacks x = balanced();
        x.lay(4);
        CHECK.due("all that are worn", scales(x, false), 1 + 2 + 4 + 8 + 32);
        x.lay(5);
        // LOADS 6, 6, 6
        CHECK.due("all that are worn", scales(x, false), 15);
        CHECK.due("none", scales(x, true), 1);
        CHECK.due("0 and 1 alike", scales(x, false, 0, 1, 1), 12);
        CHECK.due("none can be", scales(x, true, 0, 1, 1), 1);
        CHECK.due("0 sinks", scales(x, false, 0, 1, 0), 2);
        CHECK.due("none cannot be", scales(x, true, 0, 1, 0), 0);
        CHECK.due("1 sinks", scales(x, false, 0, 1, 2), 1);
        CHECK.due("the other way round", scales(x, false, 1, 0, 2), 2);
        CHECK.due("2 is light: a half rounded down", scales(x, false, 0, 2, 0, 0, 1, 1), 12);
        CHECK.due("it cannot be", scales(x, false, 0, 1, 0, 0, 1, 2), 0);
        CHECK.due("it cannot be", scales(x, true, 0, 1, 0, 0, 1, 2), 0);
        CHECK.due("12 rows", scales(x, false, 0, 1, 0, 0, 1, 0, 0, 1, 0, 0, 1, 0, 0, 1, 0, 0, 1, 0, 0, 1, 0, 0, 1, 0,
                0, 1, 0, 0, 1, 0, 0, 1, 0, 0, 1, 0), 2);
        CHECK.due("the tape is used up", x.end(1), false);
        CHECK.due("without PEOPLE", new StoneBacks().scales(false), 0);
        CHECK.due("without PEOPLE", new StoneBacks().scales(true), 1);
    }

    private static void scalesWrong() {
        StoneBacks x = balanced();
        int[][] wrong = {{0}, {0, 1}, {0, 1, 1, 0}, {0, 1, 3}, {0, 0, 1}, {3, 0, 1}, {0, 3, 1}, {255, 0, 1}, {0, 255, 1},
            {0, 1, 255}, {0, 1, 1, 1, 1, 1}, {0, 1, 128}};
        for (int[] rows : wrong) {
            CHECK.noArgument("scales", () -> scales(x, false, rows));
            CHECK.due("the tape is used up", x.end(1), false);
            CHECK.noArgument("scales", () -> scales(x, true, rows));
            Check.rows(x, rows);
            CHECK.noArgument("weigh", () -> x.weigh());
            CHECK.due("the tape is used up", x.end(1), false);
        }
        int[] many = new int[39];
        for (int i = 0; i < 39; i += 3) {
            many[i + 1] = 1;
        }
        CHECK.noArgument("39 bytes", () -> scales(x, false, many));
        Check.rows(x, many);
        CHECK.noArgument("39 bytes", () -> x.weigh());
    }

    private static int weigh(StoneBacks x, int... rows) {
        Check.rows(x, rows);
        return x.weigh();
    }

    private static void weighing() {
        StoneBacks x = balanced();
        x.lay(4);
        x.lay(5);
        // cases 0, 1, 2, 3, none; 0 and 1: 1 3 1; 0 and 2: 2 2 1; 1 and 2: 2 2 1
        CHECK.due("of several the least", weigh(x), 2);
        CHECK.due("0 and 1 alike: 2, 3, none", weigh(x, 0, 1, 1), 2);
        CHECK.due("one case", weigh(x, 0, 1, 0), -1);
        CHECK.due("no case", weigh(x, 0, 1, 0, 0, 1, 2), -1);
        CHECK.due("two cases that nothing parts", weigh(x, 0, 2, 0, 0, 1, 1), 1);
        CHECK.due("the later two", weigh(Check.told("person 0 back 20 at 5;person 0 back 20 at 5;person 0 back 20 at 5;"
                + "stone 6 of 1 to 0;stone 6 of 2 to 0")), 12);
        CHECK.due("one PERSON", Check.told("person 0 back 20 at 5").weigh(), -1);
        CHECK.due("one case", weigh(Check.told("person 0 back 20 at 5;person 0 back 20 at 5")), -1);
        StoneBacks six = Check.told("person 0 back 20 at 5;".repeat(5) + "person 0 back 20 at 5;"
                + "stone 9 of 4 to 0;stone 9 of 5 to 0");
        CHECK.due("45", six.weigh(), 45);
    }
}
