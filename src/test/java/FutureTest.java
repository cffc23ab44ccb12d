/** Promises 27, 33 and 37 to 40: what is ahead, trials and spans. */
public final class FutureTest {
    private static final Check CHECK = new Check();
    private static final int MIN = Integer.MIN_VALUE;
    private static final int MAX = Integer.MAX_VALUE;

    public static void main(String[] args) {
        first();
        last();
        gravel();
        ahead();
        trial();
        span();
        nothingStays();
        wrong();
        CHECK.end();
    }

    private static void first() {
        StoneBacks x = Check.told("person 0 back 60 at 0 goal 2;person 0 back 60 at 5;person 5 back 60 at 9;"
                + "stone 20 of 0 to 1;stone 5 of 2 to 1;hour 2");
        Check.law(x, "earn 1 if who<1");
        // there in 2 HOURS; OWES 21 at 22 HOURS (HOUR 24), PURSE 21 by 23
        CHECK.due("by gravel", x.first(0), 23);
        CHECK.due("who owes nothing", x.first(1), 0);
        CHECK.due("as much", x.first(2), 0);
        Check.law(x, "");
        CHECK.due("none", x.first(0), -1);
        // the latest HOUR that counts is 200: PURSE is 200 then, by 1 each HOUR
        StoneBacks y = Check.told("person 0 back 60 at 0;person 0 back 60 at 5" + ";stone 40 of 0 to 1".repeat(5));
        Check.law(y, "earn 1");
        CHECK.due("200", y.first(0), 200);
        StoneBacks z = Check.told("person 0 back 60 at 0;person 0 back 60 at 5" + ";stone 40 of 0 to 1".repeat(5));
        Check.law(z, "earn 1 if hour>0 or tired>0;tire 1");
        CHECK.due("not 201", z.first(0), -1);
    }

    private static void last() {
        CHECK.due("without PEOPLE", new StoneBacks().last(false), -1);
        CHECK.due("without PEOPLE", new StoneBacks().last(true), -1);
        StoneBacks x = Check.told("person 0 back 60 at 0;person 0 back 11 at 5;person 0 back 11 at 5;"
                + "stone 10 of 1 to 0;stone 10 of 2 to 0;hour 20");
        Check.law(x, "");
        // 11 at HOUR 24, 12 at HOUR 48
        CHECK.due("by gravel", x.last(false), 28);
        CHECK.due("the least", x.last(true), 1);
        Check.law(x, "tire 3 if who>1");
        // 12 at 4 HOURS, halved to 6; then 24 HOURS more by 3: 78
        CHECK.due("by gravel first", x.last(false), 28);
        Check.law(x, "tire 5 if who>1");
        // 20 halved to 10, then 99 by 18 HOURS more
        CHECK.due("by TIRED", x.last(false), 22);
        CHECK.due("who", x.last(true), 2);
        Check.law(x, "hurt 99;hurt 1");
        CHECK.due("nobody gets HURT ahead", x.last(false), 28);
        x.hours(1);
        CHECK.due("but who is HURT is bowed", x.last(false), 0);
        CHECK.due("who", x.last(true), 0);
        StoneBacks y = Check.told("person 0 back 60 at 0;person 0 back 8 at 5;stone 1 of 1 to 0");
        Check.law(y, "");
        CHECK.due("9 at HOUR 192", y.last(false), 192);
        StoneBacks z = Check.told("person 0 back 60 at 0;person 0 back 9 at 5;stone 1 of 1 to 0");
        Check.law(z, "");
        CHECK.due("none by 200", z.last(false), -1);
        CHECK.due("none by 200", z.last(true), -1);
        StoneBacks u = Check.told("person 0 back 60 at 0;person 0 back 9 at 5;stone 1 of 1 to 0;hour 16");
        Check.law(u, "");
        CHECK.due("HOUR 216 is 200 ahead", u.last(false), 200);
    }

    private static void gravel() {
        StoneBacks x = Check.told("person 9 back 60 at 0;person 0 back 60 at 0;stone 5 of 0 to 1;stone 39 of 0 to 1;"
                + "stone 4 of 0 to 1;hour 23");
        x.lay(0);
        x.pay(2);
        CHECK.due("0", x.gravel(0), 0);
        CHECK.due("1", x.gravel(1), 2);
        CHECK.due("24", x.gravel(24), 2);
        CHECK.due("25", x.gravel(25), 3);
        CHECK.due("200", x.gravel(200), 10);
    }

    private static void ahead() {
        StoneBacks x = Check.told("person 3 back 60 at 4 goal 7;person 0 back 60 at 0;stone 8 of 0 to 1");
        CHECK.due("now: PURSE", x.ahead(0, 0, 0), 3);
        CHECK.due("now: PLACE", x.ahead(0, 0, 1), 4);
        CHECK.due("now: TIRED", x.ahead(0, 0, 2), 0);
        CHECK.due("now: LOAD", x.ahead(0, 0, 3), 8);
        CHECK.due("PURSE", x.ahead(0, 5, 0), 19);
        CHECK.due("PLACE", x.ahead(0, 2, 1), 6);
        CHECK.due("TIRED", x.ahead(0, 23, 2), 46);
        CHECK.due("TIRED", x.ahead(0, 24, 2), 24);
        CHECK.due("LOAD", x.ahead(0, 200, 3), 16);
        // HURT ones stay HURT: they do not walk, nor tire
        Check.law(x, "tire 2;hurt 99;hurt 1");
        x.hours(1);
        CHECK.due("a HURT one stays", x.ahead(0, 9, 1), 5);
        CHECK.due("nor tires", x.ahead(0, 9, 2), 2);
    }

    private static void trial() {
        StoneBacks x = Check.told("person 3 back 60 at 4;person 10 back 5 at 0;stone 40 of 1 to 0");
        CHECK.due("PURSES", x.trial(2, false), 33);
        CHECK.due("who is HURT: nobody yet", x.trial(0, true), 0);
        Check.law(x, "hurt 30 if who>0;hurt 5");
        for (int seed : new int[] {1, 2, 77, -5}) {
            for (int n : new int[] {1, 2, 3, 10}) {
                x.seed(seed);
                int tried = x.trial(n, true);
                x.hours(n);
                CHECK.due("the trial of " + n + " from " + seed, tried, x.count(11));
                x.undo();
            }
        }
    }

    private static void span() {
        StoneBacks x = Check.told("person 3 back 60 at 4;".repeat(3) + "person 10 back 5 at 0");
        Check.law(x, "hurt 4");
        x.seed(1234);
        int fewest = 6;
        int most = 0;
        for (int seed = 1; seed <= 6; seed++) {
            int before = x.seed(seed);
            int hurt = Integer.bitCount(x.trial(20, true));
            x.seed(before);
            fewest = Math.min(fewest, hurt);
            most = Math.max(most, hurt);
        }
        CHECK.due("the fewest", x.span(20, false), fewest);
        CHECK.due("the most", x.span(20, true), most);
        CHECK.due("they differ", fewest < most, true);
        Check.law(x, "hurt 99 if who<1;hurt 1 if who<1");
        x.hours(1);
        CHECK.due("who is HURT already counts", x.span(0, false), 1);
        CHECK.due("who is HURT already counts", x.span(100, true), 1);
    }

    private static void nothingStays() {
        StoneBacks x = Check.told("person 3 back 60 at 4 goal 9;person 10 back 5 at 0;stone 20 of 1 to 0;hour 23");
        Check.law(x, "tire 5;earn 5;hurt 50");
        x.first(1);
        x.last(true);
        x.gravel(200);
        x.ahead(0, 200, 0);
        x.trial(100, true);
        x.span(100, true);
        CHECK.due("PLACE", x.person(0, 2), 4);
        CHECK.due("TIRED", x.person(0, 4), 0);
        CHECK.due("PURSES", x.count(6), 13);
        CHECK.due("HURT", x.count(11), 0);
        CHECK.due("HOUR", x.count(4), 23);
        CHECK.due("WEIGHT", x.stone(0, 2), 20);
        CHECK.due("SEED", x.seed(1), 1);
        CHECK.due("no acts", x.count(13), 0);
    }

    private static void wrong() {
        StoneBacks x = Check.told("person 3 back 60 at 4");
        CHECK.noBounds("first(1)", () -> x.first(1));
        CHECK.noBounds("first(-1)", () -> x.first(-1));
        CHECK.noBounds("ahead(1, -1, 9)", () -> x.ahead(1, -1, 9));
        for (int bad : new int[] {-1, 201, MIN, MAX}) {
            CHECK.noArgument("gravel(" + bad + ")", () -> x.gravel(bad));
            CHECK.noArgument("ahead(0, " + bad + ", 9)", () -> x.ahead(0, bad, 9));
        }
        for (int bad : new int[] {-1, 4, MIN, MAX}) {
            CHECK.noElement("ahead(0, 200, " + bad + ")", () -> x.ahead(0, 200, bad));
        }
        for (int bad : new int[] {-1, 101, MIN, MAX}) {
            CHECK.noArgument("trial(" + bad + ")", () -> x.trial(bad, true));
            CHECK.noArgument("span(" + bad + ")", () -> x.span(bad, true));
        }
        CHECK.due("trial(100)", x.trial(100, false), 1003);
        CHECK.due("span(100)", x.span(100, false), 0);
    }
}
