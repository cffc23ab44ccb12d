/** The edges of promises 27, 33 and 37 to 40, sentence by sentence: what is ahead, trials and spans. */
public final class EdgeFutureTest {
    private static final Check CHECK = new Check();
    private static final int MIN = Integer.MIN_VALUE;
    private static final int MAX = Integer.MAX_VALUE;

    public static void main(String[] args) {
        first();
        last();
        gravel();
        ahead();
        aheadWithoutHurts();
        aheadRefused();
        trial();
        span();
        nothingStays();
        CHECK.end();
    }

    // ---- promise 27

    private static void first() {
        CHECK.of("FIRST of a PERSON: the first N (0 to 200) AHEAD by which its PURSE is what it OWES then at least; none.");
        CHECK.due("who owes nothing", Check.told("person 0 back 1 at 0").first(0), 0);
        String two = "person 20 back 60 at 0;person 0 back 60 at 0;";
        CHECK.due("as much now", Check.told(two + "stone 20 of 0 to 1").first(0), 0);
        StoneBacks x = Check.told(two + "stone 21 of 0 to 1");
        Check.law(x, "earn 1");
        CHECK.due("one less now", x.first(0), 1);
        Check.law(x, "");
        CHECK.due("never", x.first(0), -1);
        CHECK.due("the LENDER owes nothing", x.first(1), 0);
        // PURSE is N, and five STONES of 40 do not grow
        String much = "person 0 back 60 at 0;person 0 back 60 at 0" + ";stone 40 of 0 to 1".repeat(5);
        StoneBacks y = Check.told(much);
        Check.law(y, "earn 1");
        CHECK.due("200 by 200", y.first(0), 200);
        StoneBacks z = Check.told(much + ";stone 40 of 0 to 1");
        Check.law(z, "earn 1");
        CHECK.due("not by 200", z.first(0), -1);
        StoneBacks late = Check.told(much.replaceFirst("at 0", "at 1 goal 0"));
        Check.law(late, "earn 1");
        CHECK.due("201 is too late", late.first(0), -1);
        // OWES then: the gravel comes first
        StoneBacks u = Check.told(two + "stone 21 of 0 to 1;hour 23");
        Check.law(u, "earn 1");
        CHECK.due("21 by 1, but it owes 22", u.first(0), 2);
        // nobody gets HURT ahead: it comes to its GOAL, and earns there
        StoneBacks walks = Check.told("person 0 back 60 at 0 goal 2;person 0 back 60 at 0;stone 21 of 0 to 1;hour 1");
        Check.law(walks, "earn 10;hurt 99;hurt 1");
        CHECK.due("2 on, and 3 of 10", walks.first(0), 5);
        walks.hours(1);
        CHECK.due("who is HURT now does not", walks.first(0), -1);
        CHECK.of("IndexOutOfBoundsException: there is no such PERSON, STONE, PLACE.");
        for (int bad : new int[] {-1, 2, MIN, MAX}) {
            CHECK.noBounds("first(" + bad + ")", () -> x.first(bad));
        }
    }

    // ---- promise 33

    private static void lastOf(StoneBacks x, String what, int hours, int who) {
        CHECK.due(what + ": in how many", x.last(false), hours);
        CHECK.due(what + ": who", x.last(true), who);
    }

    private static void last() {
        CHECK.of("LAST: the first N (0 to 200) AHEAD by which some PERSON is BOWED; none; who (the least).");
        lastOf(new StoneBacks(), "without PEOPLE", -1, -1);
        StoneBacks never = Check.told("person 0 back 1 at 0;person 0 back 1 at 0");
        lastOf(never, "nobody", -1, -1);
        String two = "person 0 back 9 at 0;person 0 back 9 at 0;";
        lastOf(Check.told(two + "stone 10 of 0 to 1;stone 10 of 1 to 0"), "both now: the least", 0, 0);
        lastOf(Check.told(two + "stone 10 of 1 to 0;stone 9 of 0 to 1"), "the second now", 0, 1);
        StoneBacks x = Check.told(two + "stone 9 of 1 to 0;hour 23");
        Check.law(x, "");
        lastOf(x, "by gravel in 1", 1, 1);
        // WEIGHT 1 is 10 by nine days: HOUR 216
        StoneBacks y = Check.told(two + "stone 1 of 1 to 0;hour 16");
        Check.law(y, "");
        lastOf(y, "200", 200, 1);
        StoneBacks z = Check.told(two + "stone 1 of 1 to 0;hour 15");
        Check.law(z, "");
        lastOf(z, "201 is too late", -1, -1);
        StoneBacks tired = Check.told(two + "hour 1");
        Check.law(tired, "tire 33");
        lastOf(tired, "TIRED 99 by 3", 3, 0);
        Check.law(tired, "tire 49 if who<1;tire 50 if who>0");
        lastOf(tired, "TIRED 98 and 99 by 2", 2, 1);
        Check.law(tired, "hurt 99;hurt 1");
        lastOf(tired, "nobody gets HURT", -1, -1);
        tired.hours(1);
        tired.rest(0);
        lastOf(tired, "who is HURT now", 0, 1);
    }

    // ---- promise 37

    private static void gravel() {
        CHECK.of("GRAVEL of N HOURS (0 to 200): by how much all STONES not paid are heavier AHEAD, together.");
        CHECK.due("without STONES", new StoneBacks().gravel(200), 0);
        StoneBacks x = Check.told("person 9 back 60 at 0;person 9 back 60 at 0;hour 23;stone 39 of 0 to 1;stone 40 of 0 to 1;"
                + "stone 1 of 0 to 1;stone 2 of 0 to 1");
        x.lay(2);
        x.pay(3);
        CHECK.due("0", x.gravel(0), 0);
        CHECK.due("1: 39 and the one that lies", x.gravel(1), 2);
        CHECK.due("24", x.gravel(24), 2);
        CHECK.due("25: 40 at most", x.gravel(25), 3);
        CHECK.due("200: nine days", x.gravel(200), 10);
        CHECK.of("GRAVEL. IllegalArgumentException: N is none.");
        for (int bad : new int[] {-1, 201, MIN, MAX}) {
            CHECK.noArgument("gravel(" + bad + ")", () -> x.gravel(bad));
        }
        StoneBacks late = Check.told("person 9 back 60 at 0;person 9 back 60 at 0;stone 1 of 0 to 1;hour 999");
        Check.law(late, "");
        for (int n = 0; n < 90; n++) {
            late.hours(100);
        }
        CHECK.due("40 by then", late.gravel(200), 0);
        late.lend(0, 1, 1);
        CHECK.due("no day comes any more", late.gravel(200), 0);
    }

    // ---- promise 38

    private static void aheadOf(StoneBacks x, int n, int... want) {
        for (int what = 0; what < 4; what++) {
            CHECK.due("ahead(0, " + n + ", " + what + ")", x.ahead(0, n, what), want[what]);
        }
    }

    private static void ahead() {
        CHECK.of("AHEAD of a PERSON what 0 PURSE, 1 the PLACE, 2 TIRED, 3 LOAD.");
        StoneBacks x = Check.told("person 3 back 60 at 4 goal 7;person 0 back 60 at 0;stone 8 of 0 to 1;hour 21");
        aheadOf(x, 0, 3, 4, 0, 8);
        aheadOf(x, 1, 3, 5, 2, 8);
        aheadOf(x, 2, 3, 6, 4, 8);
        aheadOf(x, 3, 3, 7, 3, 9);
        aheadOf(x, 4, 11, 7, 5, 9);
        StoneBacks y = Check.told("person 999 back 60 at 4;person 0 back 60 at 0;stone 40 of 0 to 1");
        Check.law(y, "earn 45;tire 99");
        aheadOf(y, 199, 9954, 4, 99, 40);
        aheadOf(y, 200, 9999, 4, 99, 40);
        Check.law(y, "earn 46;tire 99");
        aheadOf(y, 192, 9831, 4, 49, 40);
        aheadOf(y, 200, 9999, 4, 99, 40);
    }

    private static void aheadWithoutHurts() {
        CHECK.of("AHEAD by N HOURS (0 to 200): as so many HOURS in which nobody gets HURT (no DRAWS).");
        StoneBacks x = Check.told("person 0 back 60 at 4 goal 9;person 0 back 60 at 4 goal 9");
        Check.law(x, "hurt 99;hurt 1;tire 1");
        CHECK.due("it goes on", x.ahead(0, 5, 1), 9);
        CHECK.due("and tires", x.ahead(0, 5, 2), 5);
        x.hours(1);
        CHECK.due("who is HURT now stays", x.ahead(0, 200, 1), 5);
        CHECK.due("and tires no more", x.ahead(0, 3, 2), 1);
        x.rest(1);
        CHECK.due("who is not goes on", x.ahead(1, 4, 1), 9);
        int seed = x.seed(99);
        CHECK.due("SEED of two DRAWS", seed, 1103515245 * 1103527590 + 12345);
        x.ahead(1, 200, 0);
        x.first(1);
        x.last(true);
        x.gravel(200);
        CHECK.due("no DRAWS", x.seed(1), 99);
    }

    private static void aheadRefused() {
        CHECK.of("IllegalArgumentException: N is none; NoSuchElementException: another what.");
        StoneBacks x = Check.told("person 3 back 60 at 4");
        for (int bad : new int[] {-1, 201, MIN, MAX}) {
            CHECK.noArgument("ahead(0, " + bad + ", 0)", () -> x.ahead(0, bad, 0));
            CHECK.noArgument("ahead(0, " + bad + ", 4)", () -> x.ahead(0, bad, 4));
        }
        for (int bad : new int[] {-1, 4, MIN, MAX}) {
            CHECK.noElement("ahead(0, 0, " + bad + ")", () -> x.ahead(0, 0, bad));
            CHECK.noElement("ahead(0, 200, " + bad + ")", () -> x.ahead(0, 200, bad));
        }
        for (int bad : new int[] {-1, 1, MIN, MAX}) {
            CHECK.noBounds("ahead(" + bad + ", 0, 0)", () -> x.ahead(bad, 0, 0));
            CHECK.noBounds("ahead(" + bad + ", 201, 4)", () -> x.ahead(bad, 201, 4));
        }
    }

    // ---- promises 39 and 40

    private static void trial() {
        CHECK.of("TRIAL of N HOURS (0 to 100) from now (draws, too; nothing stays): PURSES of all; who is HURT then, as bits.");
        CHECK.due("without PEOPLE", new StoneBacks().trial(100, false), 0);
        CHECK.due("without PEOPLE", new StoneBacks().trial(100, true), 0);
        StoneBacks x = Check.told("person 3 back 60 at 4;person 10 back 5 at 0;person 10 back 5 at 0");
        CHECK.due("0: PURSES", x.trial(0, false), 23);
        CHECK.due("1: PURSES", x.trial(1, false), 53);
        CHECK.due("100: PURSES", x.trial(100, false), 3023);
        // 38, 58 and 13 are the first DRAWS from SEED 1
        Check.law(x, "hurt 14");
        CHECK.due("0: nobody", x.trial(0, true), 0);
        CHECK.due("1: the third", x.trial(1, true), 4);
        Check.law(x, "hurt 39");
        CHECK.due("1: the first and the third", x.trial(1, true), 5);
        Check.law(x, "hurt 99;hurt 1");
        CHECK.due("100: all", x.trial(100, true), 7);
        x.seed(0);
        Check.law(x, "hurt 1");
        CHECK.due("from SEED 0: 0 is below 1", x.trial(1, true) & 1, 1);
        x.hours(1);
        CHECK.due("who is HURT already", x.trial(0, true) & 1, 1);
        CHECK.of("TRIAL: PURSES (hurt false), or who is HURT, as bits. IllegalArgumentException: N is none.");
        for (int bad : new int[] {-1, 101, MIN, MAX}) {
            CHECK.noArgument("trial(" + bad + ", false)", () -> x.trial(bad, false));
            CHECK.noArgument("trial(" + bad + ", true)", () -> x.trial(bad, true));
        }
    }

    private static void spanOf(StoneBacks x, int n, int fewest, int most) {
        CHECK.due("the fewest in " + n, x.span(n, false), fewest);
        CHECK.due("the most in " + n, x.span(n, true), most);
    }

    private static void span() {
        CHECK.of("SPAN: the fewest and the most who are HURT then from SEED 1, 2, .. 6.");
        spanOf(new StoneBacks(), 100, 0, 0);
        StoneBacks x = Check.told("person 3 back 60 at 4" + ";person 3 back 60 at 4".repeat(5));
        spanOf(x, 0, 0, 0);
        spanOf(x, 100, 0, 0);
        Check.law(x, "hurt 99;hurt 1");
        spanOf(x, 0, 0, 0);
        spanOf(x, 1, 6, 6);
        spanOf(x, 100, 6, 6);
        // of one PERSON, the first DRAWS modulo 100 from SEED 1 to 6 tell from which on one and all are HURT
        int least = 99;
        int greatest = 0;
        int[] draws = new int[6];
        for (int seed = 1; seed <= 6; seed++) {
            draws[seed - 1] = (1103515245 * seed + 12345 >>> 16 & 32767) % 100;
            least = Math.min(least, draws[seed - 1]);
            greatest = Math.max(greatest, draws[seed - 1]);
        }
        CHECK.due("SEED 1 has neither the least nor the greatest", draws[0] > least && draws[0] < greatest, true);
        StoneBacks one = Check.told("person 3 back 60 at 4");
        Check.law(one, "hurt " + least);
        spanOf(one, 1, 0, 0);
        Check.law(one, "hurt " + (least + 1));
        spanOf(one, 1, 0, 1);
        Check.law(one, "hurt " + greatest);
        spanOf(one, 1, 0, 1);
        Check.law(one, "hurt " + greatest + ";hurt 1");
        spanOf(one, 1, 1, 1);
        one.seed(-77);
        spanOf(one, 1, 1, 1);
        Check.law(one, "hurt 99;hurt 1");
        one.hours(1);
        Check.law(one, "");
        spanOf(one, 0, 1, 1);
        CHECK.of("SPAN: the fewest (most false), or the most. IllegalArgumentException: N is none.");
        for (int bad : new int[] {-1, 101, MIN, MAX}) {
            CHECK.noArgument("span(" + bad + ", false)", () -> x.span(bad, false));
            CHECK.noArgument("span(" + bad + ", true)", () -> x.span(bad, true));
        }
        seedsOfSpan();
    }

    /** Each row tells PEOPLE, HOURS and a hurt by which one SEED (the sixth first) alone makes an end of the span. */
    private static void seedsOfSpan() {
        CHECK.of("SPAN: the fewest and the most who are HURT then from SEED 1, 2, .. 6.");
        int[][] alone = {{1, 7, 11, 0, 1}, {1, 1, 48, 0, 1}, {1, 3, 17, 0, 1}, {1, 2, 8, 0, 1}, {1, 1, 9, 0, 1}, {2, 2, 16, 0, 2}};
        for (int[] one : alone) {
            StoneBacks x = Check.told("person 3 back 60 at 4" + ";person 3 back 60 at 4".repeat(one[0] - 1));
            Check.law(x, "hurt " + one[2]);
            spanOf(x, one[1], one[3], one[4]);
        }
        // SEED 7 alone would hurt nobody by 60, and somebody by 7
        StoneBacks seventh = Check.told("person 3 back 60 at 4");
        Check.law(seventh, "hurt 60");
        spanOf(seventh, 1, 1, 1);
        Check.law(seventh, "hurt 7");
        spanOf(seventh, 2, 0, 0);
        for (int hurts = 1; hurts <= 99; hurts += 7) {
            StoneBacks x = Check.told("person 3 back 60 at 4" + ";person 3 back 60 at 4".repeat(5));
            Check.law(x, "hurt " + hurts);
            int fewest = 6;
            int most = 0;
            for (int seed = 1; seed <= 6; seed++) {
                x.seed(seed);
                int hurt = x.hours(1);
                x.undo();
                fewest = Math.min(fewest, hurt);
                most = Math.max(most, hurt);
            }
            x.seed(1);
            spanOf(x, 1, fewest, most);
        }
    }

    private static StoneBacks busy() {
        StoneBacks x = Check.told("person 3 back 60 at 4 goal 9;person 10 back 5 at 0;stone 20 of 1 to 0;hour 23");
        Check.law(x, "tire 5;earn 5;hurt 50");
        x.lend(0, 1, 2);
        x.image();
        x.goal(0, 10);
        return x;
    }

    private static void nothingStays() {
        CHECK.of("from now (draws, too; nothing stays)");
        String due = Sight.ofAll(busy());
        StoneBacks x = busy();
        x.trial(100, true);
        x.trial(100, false);
        x.span(100, true);
        x.span(100, false);
        x.ahead(0, 200, 0);
        x.gravel(200);
        x.first(1);
        x.last(false);
        CHECK.due("all", Sight.ofAll(x), due);
    }
}
