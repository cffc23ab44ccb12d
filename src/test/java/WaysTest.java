/** Promises 20 to 25, 32 and 34 to 36: ways, THE BRIDGE, shares, goes, meeting, heaps, loads. */
public final class WaysTest {
    private static final Check CHECK = new Check();
    private static final int MIN = Integer.MIN_VALUE;
    private static final int MAX = Integer.MAX_VALUE;

    public static void main(String[] args) {
        ways();
        soonest();
        crossing();
        shedding();
        sharing();
        goes();
        meeting();
        heaps();
        loads();
        wrong();
        CHECK.end();
    }

    private static void ways() {
        StoneBacks x = Check.told("person 0 back 60 at 4;person 0 back 60 at 4;person 0 back 60 at 8;"
                + "stone 29 of 0 to 1;stone 9 of 2 to 1;slope 2 1;slope 3 2;slope 6 3;slope 4 1;limit 29");
        CHECK.due("none on", x.way(0, 4), 0);
        CHECK.due("29 by 10 is 2, SLOPE 2: 4 more", x.way(0, 3), 5);
        CHECK.due("and SLOPE 1: 2 more", x.way(0, 2), 8);
        CHECK.due("over THE BRIDGE", x.way(0, 6), 1 + 1 + 6);
        CHECK.due("a light one", x.way(1, 6), 2);
        CHECK.due("9 by 10 is 0", x.way(2, 0), 8);
        CHECK.due("the SLOPE of where one is counts not", x.way(0, 5), 1);
        Check.valley(x, "limit 28");
        CHECK.due("LOAD above LIMIT", x.way(0, 6), -1);
        CHECK.due("on this side", x.way(0, 5), 1);
        CHECK.due("to 0", x.way(0, 0), 4 + 4 + 2);
        StoneBacks y = Check.told("person 0 back 60 at 6;person 0 back 60 at 4;stone 29 of 0 to 1;limit 28");
        CHECK.due("nor back over it", y.way(0, 5), -1);
        CHECK.due("to 11", y.way(0, 11), 5);
    }

    private static void soonest() {
        StoneBacks x = Check.told("person 0 back 8 at 5;person 0 back 60 at 4;person 0 back 60 at 6;"
                + "stone 9 of 0 to 1;stone 20 of 1 to 2;slope 5 1;slope 6 1");
        CHECK.due("a bowed one is none", x.soonest(5), 2);
        CHECK.due("of several the least", Check.told("person 0 back 8 at 5;person 0 back 8 at 3").soonest(4), 0);
        CHECK.due("at 4", x.soonest(4), 1);
        Check.valley(x, "limit 5");
        CHECK.due("nobody else over it", x.soonest(11), 2);
        CHECK.due("nobody", Check.told("person 0 back 8 at 5;person 0 back 6 at 5;stone 7 of 0 to 1;stone 7 of 1 to 0;"
                + "limit 6").soonest(6), -1);
        CHECK.due("without people", new StoneBacks().soonest(6), -1);
    }

    private static void crossing() {
        StoneBacks x = Check.told("person 0 back 1 at 5;person 0 back 60 at 4;stone 20 of 0 to 1;stone 20 of 0 to 1");
        CHECK.due("40 at LIMIT 40", x.cross(0), true);
        Check.valley(x, "limit 39");
        CHECK.due("40 at LIMIT 39", x.cross(0), false);
        CHECK.due("0", x.cross(1), true);
    }

    private static void shedding() {
        StoneBacks x = Check.told("person 0 back 20 at 5;person 0 back 60 at 4;person 0 back 9 at 3;limit 30;"
                + "stone 5 of 0 to 1;stone 12 of 0 to 1;stone 9 of 0 to 1;stone 14 of 0 to 1;stone 3 of 1 to 0;"
                + "stone 10 of 2 to 1;stone 10 of 2 to 1");
        // 40: 20 to put off: of two STONES 12 and 9 (6), 12 and 14 (10), 9 and 14 (12)
        CHECK.due("BACK", x.shed(0), 6);
        CHECK.due("nothing to put off", x.shed(1), 0);
        CHECK.due("all", x.shed(2), 96);
        Check.valley(x, "limit 14");
        CHECK.due("LIMIT: 26 of 40", x.shed(0), 10);
        Check.valley(x, "limit 1");
        CHECK.due("all of 0", x.shed(0), 15);
        CHECK.due("all of 1", x.shed(1), 16);
    }

    private static void sharing() {
        StoneBacks x = Check.told("person 0 back 1 at 5;person 0 back 60 at 4;person 0 back 9 at 5;person 0 back 9 at 5;"
                + "stone 5 of 0 to 1;stone 5 of 1 to 0;stone 5 of 2 to 1;stone 5 of 0 to 1;stone 7 of 0 to 2");
        // STONES 0, 2, 3, 4 of 5, 5, 5, 7 for PEOPLE 0, 2, 3
        CHECK.due("the greatest", x.share(5, -1), 10);
        CHECK.due("0", x.share(5, 0), 0);
        CHECK.due("1", x.share(5, 1), 0);
        CHECK.due("2", x.share(5, 2), 2);
        CHECK.due("3", x.share(5, 3), 3);
        CHECK.due("4", x.share(5, 4), -1);
        CHECK.due("-2", x.share(5, -2), -1);
        CHECK.due("MIN", x.share(5, MIN), -1);
        CHECK.due("MAX", x.share(5, MAX), -1);
        CHECK.due("one alone", x.share(4, -1), 5);
        CHECK.due("goes to that one", x.share(4, 0), 1);
        CHECK.due("nobody there", x.share(3, -1), -1);
        CHECK.due("nobody there", x.share(3, 0), -1);
        CHECK.due("without STONES", Check.told("person 0 back 1 at 5").share(5, -1), 0);
        CHECK.due("without STONES", Check.told("person 0 back 1 at 5").share(5, 0), -1);
    }

    private static void goes() {
        CHECK.due("without PEOPLE", new StoneBacks().goes(), 0);
        CHECK.due("one", Check.told("person 0 back 1 at 5").goes(), 1);
        String six = "person 0 back 1 at 5;".repeat(5) + "person 0 back 1 at 11;";
        CHECK.due("six of nothing", Check.told(six + "limit 1").goes(), 1);
        StoneBacks x = Check.told(six + "stone 6 of 0 to 1;stone 6 of 1 to 0;stone 4 of 2 to 0;stone 4 of 3 to 0;"
                + "stone 5 of 4 to 0;stone 5 of 5 to 0;limit 10");
        CHECK.due("6 4, 6 4, 5 5", x.goes(), 3);
        Check.valley(x, "limit 9");
        CHECK.due("6, 6, 4 4, 5, 5 or 6, 6, 4 5, 4 5", x.goes(), 4);
        Check.valley(x, "limit 30");
        CHECK.due("all", x.goes(), 1);
        Check.valley(x, "limit 6");
        CHECK.due("each", x.goes(), 6);
        Check.valley(x, "limit 5");
        CHECK.due("one above it", x.goes(), -1);
    }

    private static void meeting() {
        CHECK.due("without PEOPLE", new StoneBacks().meet(), -1);
        CHECK.due("of several the least", Check.told("person 0 back 1 at 3;person 0 back 1 at 9").meet(), 3);
        CHECK.due("the middle one", Check.told("person 0 back 1 at 3;person 0 back 1 at 9;person 1 back 1 at 7").meet(), 7);
        StoneBacks x = Check.told("person 0 back 1 at 3;person 0 back 1 at 9;stone 20 of 0 to 1;slope 4 3;slope 3 3");
        CHECK.due("no slope for the loaded one", x.meet(), 3);
        CHECK.due("it is heavy", Check.told("person 0 back 1 at 5;person 0 back 1 at 9;stone 20 of 1 to 0;slope 8 1;"
                + "slope 7 1;slope 6 1;slope 5 1").meet(), 9);
        CHECK.due("both sides", Check.told("person 0 back 1 at 5;person 0 back 1 at 9;stone 20 of 1 to 0;"
                + "stone 20 of 0 to 1;limit 19").meet(), -1);
        CHECK.due("one side", Check.told("person 0 back 1 at 5;person 0 back 1 at 9;stone 20 of 1 to 0;limit 19").meet(), 6);
    }

    private static void heaps() {
        StoneBacks x = Check.told("person 0 back 1 at 5;person 0 back 1 at 9;person 0 back 1 at 9;porch 5;porch 9;"
                + "stone 4 of 0 to 1;stone 9 of 0 to 1;stone 5 of 1 to 0;stone 8 of 2 to 0");
        CHECK.due("none", x.heap(), -1);
        x.lay(0);
        CHECK.due("4 at 5", x.heap(), 5);
        x.lay(3);
        CHECK.due("8 at 9", x.heap(), 9);
        x.lay(1);
        CHECK.due("13 at 5", x.heap(), 5);
        x.lay(2);
        CHECK.due("13 at both", x.heap(), 5);
        x.lift(0, 0);
        CHECK.due("13 at 9", x.heap(), 9);
    }

    private static void loads() {
        CHECK.due("pairs of none", new StoneBacks().pairs(), 0);
        CHECK.due("heaviest of none", new StoneBacks().heaviest(), -1);
        StoneBacks x = Check.told("person 0 back 1 at 5;".repeat(5) + "person 0 back 1 at 5");
        CHECK.due("all of 0", x.pairs(), 15);
        CHECK.due("heaviest of 0", x.heaviest(), 0);
        Check.valley(x, "stone 4 of 2 to 0;stone 2 of 3 to 0;stone 2 of 3 to 0;stone 1 of 5 to 0");
        CHECK.due("0 0 4 4 0 1", x.pairs(), 4);
        CHECK.due("heaviest", x.heaviest(), 2);
        x.pass(0, 5);
        CHECK.due("heaviest then", x.heaviest(), 5);
    }

    private static void wrong() {
        StoneBacks x = Check.told("person 0 back 1 at 5");
        for (int bad : new int[] {-1, 1, 6, MIN, MAX}) {
            CHECK.noBounds("way(" + bad + ", 0)", () -> x.way(bad, 0));
            CHECK.noBounds("cross(" + bad + ")", () -> x.cross(bad) ? 1 : 0);
            CHECK.noBounds("shed(" + bad + ")", () -> x.shed(bad));
        }
        for (int bad : new int[] {-1, 12, MIN, MAX}) {
            CHECK.noBounds("way(0, " + bad + ")", () -> x.way(0, bad));
            CHECK.noBounds("soonest(" + bad + ")", () -> x.soonest(bad));
            CHECK.noBounds("share(" + bad + ", -1)", () -> x.share(bad, -1));
        }
    }
}
