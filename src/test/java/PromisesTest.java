/** The promises from the first to the last, each by its own words, with answers that were reckoned by hand. */
public final class PromisesTest {
    private static final Check CHECK = new Check();
    private static final int NONE = StoneBacks.NONE;

    /** LOADS are 17, 0 and 8; PERSON 0 bears STONE 1 for PERSON 2, and is above LIMIT. */
    private static final String VALLEY = "person 30 back 25 at 4 goal 7;person 100 back 40 at 4;person 5 back 12 at 6;"
            + "stone 10 of 0 to 1;stone 7 of 2 to 1 worn by 0;stone 8 of 2 to 0;"
            + "slope 5 1;slope 6 2;porch 6;limit 16;hour 22";

    private static int promises = 0;

    public static void main(String[] args) {
        texts();
        whatThereIs();
        actsWithStones();
        actsOfPeople();
        ways();
        shares();
        debts();
        scales();
        places();
        future();
        draws();
        memory();
        CHECK.due("promises gone through", promises, 47);
        CHECK.end();
    }

    /** The words are those of the promise of this number; the checks that follow are of it. */
    private static void promise(int number, String name, String words) {
        promises++;
        CHECK.due("promises go by numbers", promises, number);
        CHECK.of("## Promise " + number + ": " + name + " `");
        CHECK.of("`: " + words + " ## ");
    }

    private static StoneBacks told() {
        return Check.told(VALLEY);
    }

    private static void texts() {
        promise(1, "A new object", "A valley without PEOPLE.");
        StoneBacks x = new StoneBacks();
        int[] counts = {0, 0, 0, NONE, 0, 40, 0, 0, 0, 0, 0, 0, 0, 0, NONE};
        for (int what = 0; what < counts.length; what++) {
            CHECK.due("count(" + what + ") of a new object", x.count(what), counts[what]);
        }
        promise(2, "feed", "Twenty bytes come behind the TAPE, of each number the highest first: how many it has; "
                + "NONE, and none come, if it would have more than 400.");
        // "person 9 back 9 at 1"
        CHECK.due("twenty", x.feed(0x70657273, 0x6f6e2039, 0x20626163, 0x6b203920, 0x61742031), 20);
        for (int fed = 40; fed <= 400; fed += 20) {
            CHECK.due("behind it", x.feed(0x20202020, 0x20202020, 0x20202020, 0x20202020, 0x20202020), fed);
        }
        CHECK.due("more than 400", x.feed(0, 0, 0, 0, 0), NONE);
        promise(3, "end", "The TAPE has its first n bytes alone: true; false, and nothing happens, if it has fewer, "
                + "or n is below 0.");
        CHECK.due("it has fewer", x.end(401), false);
        CHECK.due("below 0", x.end(-1), false);
        CHECK.due("as many", x.end(400), true);
        promise(4, "valley", "Uses the TAPE up: a text of THE VALLEY: how many there are. "
                + "IllegalArgumentException: it is wrong; UnsupportedOperationException: there are 12.");
        CHECK.due("the first text, blanks behind", x.valley(), 1);
        CHECK.due("its PURSE", x.person(0, 0), 9);
        CHECK.due("the TAPE is used up", x.end(1), false);
        for (int text = 2; text <= 12; text++) {
            CHECK.due("a text without LINES", x.valley(), text);
        }
        CHECK.fails("a 13th text", UnsupportedOperationException.class, x::valley);
        CHECK.noArgument("a 13th text that is wrong", () -> Check.valley(x, "porch 12"));
        promise(5, "law", "Uses the TAPE up: THE LAW: how many LINES. IllegalArgumentException: the text is wrong.");
        CHECK.due("two LINES", Check.law(x, "tire 3 if not there;earn 7 if light and hour<1"), 2);
        CHECK.due("the TAPE is used up", x.end(1), false);
        CHECK.due("it EARNS by 7", x.does(0, 1), 7);
        CHECK.due("in place of the one before", Check.law(x, "hurt 5"), 1);
        CHECK.due("it EARNS no more", x.does(0, 1), 0);
        CHECK.noArgument("a wrong text", () -> Check.law(x, "earn 9;hurt"));
        promise(6, "fault", "The first wrong byte of the latest text that was read; NONE without one, and ahead of any.");
        CHECK.due("more must come", x.fault(), 11);
        Check.law(x, "earn 9");
        CHECK.due("without one", x.fault(), NONE);
        CHECK.due("ahead of any", new StoneBacks().fault(), NONE);
    }

    private static void whatThereIs() {
        StoneBacks x = told();
        promise(7, "person", "Of a PERSON what 0 PURSE, 1 BACK, 2 its PLACE, 3 its GOAL, 4 TIRED, 5 1 if HURT, 6 LOAD, "
                + "7 STONES that it wears, as bits, 8 OWES, 9 DUE, 10 BEARS, as bits, 11 1 if BOWED. "
                + "NoSuchElementException: another what.");
        int[] zero = {30, 25, 4, 7, 0, 0, 17, 3, 10, 8, 2, 0};
        int[] two = {5, 12, 6, 6, 0, 0, 8, 4, 15, 0, 0, 0};
        for (int what = 0; what < 12; what++) {
            CHECK.due("person(0, " + what + ")", x.person(0, what), zero[what]);
            CHECK.due("person(2, " + what + ")", x.person(2, what), two[what]);
        }
        CHECK.noElement("person(0, 12)", () -> x.person(0, 12));
        CHECK.noBounds("person(3, 12)", () -> x.person(3, 12));
        promise(8, "does", "Of a PERSON what 0 it TIRES, 1 it EARNS, 2 it HURTS by now. "
                + "NoSuchElementException: another what.");
        CHECK.due("17 by 4", x.does(0, 0), 4);
        CHECK.due("10 less 4", x.does(0, 1), 6);
        CHECK.due("17 less 25", x.does(0, 2), 0);
        CHECK.noElement("does(0, 3)", () -> x.does(0, 3));
        CHECK.noBounds("does(-1, 3)", () -> x.does(-1, 3));
        promise(9, "stone", "Of a STONE what 0 the DEBTOR, 1 the LENDER, 2 WEIGHT, 3 the STATE, 4 the BEARER (NONE, "
                + "if it is not worn), 5 the PLACE where it is (its BEARER's; NONE, if it is paid). "
                + "NoSuchElementException: another what.");
        stoneIs(x, 1, 2, 1, 7, 0, 0, 4);
        x.lay(2);
        stoneIs(x, 2, 2, 0, 8, 1, NONE, 6);
        x.pay(0);
        stoneIs(x, 0, 0, 1, 10, 2, NONE, NONE);
        CHECK.noElement("stone(0, 6)", () -> x.stone(0, 6));
        CHECK.noBounds("stone(3, 6)", () -> x.stone(3, 6));
        promise(10, "place", "Of a PLACE what 0 SLOPE, 1 1 with a PORCH, 2 PEOPLE there, as bits, "
                + "3 STONES set down there, as bits. NoSuchElementException: another what.");
        int[] six = {2, 1, 4, 4};
        int[] four = {0, 0, 3, 0};
        for (int what = 0; what < 4; what++) {
            CHECK.due("place(6, " + what + ")", x.place(6, what), six[what]);
            CHECK.due("place(4, " + what + ")", x.place(4, what), four[what]);
        }
        CHECK.noElement("place(0, -1)", () -> x.place(0, -1));
        CHECK.noBounds("place(12, -1)", () -> x.place(12, -1));
    }

    private static void stoneIs(StoneBacks x, int stone, int... due) {
        for (int what = 0; what < due.length; what++) {
            CHECK.due("stone(" + stone + ", " + what + ")", x.stone(stone, what), due[what]);
        }
    }

    private static void actsWithStones() {
        promise(11, "lend", "Lent: the new STONE. IllegalArgumentException: both are one, or WEIGHT is none (1 to 40); "
                + "IllegalStateException: there are 10 STONES, or the LENDER's PURSE is less.");
        StoneBacks x = told();
        CHECK.due("lent", x.lend(1, 0, 20), 3);
        CHECK.due("of the LENDER's PURSE", x.person(1, 0), 80);
        CHECK.due("to that one's", x.person(0, 0), 50);
        stoneIs(x, 3, 0, 1, 20, 0, 0, 4);
        CHECK.due("37 on a BACK of 25", x.person(0, 11), 1);
        CHECK.noBounds("no such LENDER", () -> x.lend(3, 3, 0));
        CHECK.noArgument("both are one", () -> x.lend(1, 1, 5));
        CHECK.noArgument("41", () -> x.lend(2, 1, 41));
        CHECK.noState("its PURSE is 5", () -> x.lend(2, 1, 6));
        promise(12, "pay", "Paid: PURSE of the DEBTOR then. IllegalStateException: it is paid, or that PURSE is less.");
        CHECK.due("50 less 10", x.pay(0), 40);
        CHECK.due("the LENDER's PURSE", x.person(1, 0), 90);
        CHECK.due("27 are worn yet", x.person(0, 6), 27);
        CHECK.noState("it is paid", () -> x.pay(0));
        CHECK.noState("the DEBTOR's PURSE is 5", () -> x.pay(1));
        CHECK.noBounds("no such STONE", () -> x.pay(4));
        promise(13, "split", "Broken: the new STONE. "
                + "IllegalStateException: it is paid, WEIGHT is 1, or there are 10 STONES.");
        CHECK.due("broken", x.split(1), 4);
        stoneIs(x, 4, 2, 1, 3, 0, 0, 4);
        stoneIs(x, 1, 2, 1, 4, 0, 0, 4);
        CHECK.noState("it is paid", () -> x.split(0));
        CHECK.noBounds("no such STONE", () -> x.split(5));
        promise(14, "pass", "Passed on: who wore it. IllegalArgumentException: that one wears it; "
                + "IllegalStateException: it is not worn, or that one is not there.");
        CHECK.due("passed on", x.pass(4, 1), 0);
        CHECK.due("worn by 1", x.person(1, 7), 16);
        CHECK.noArgument("that one wears it", () -> x.pass(4, 1));
        CHECK.noState("that one is not there", () -> x.pass(4, 2));
        CHECK.noState("it is not worn", () -> x.pass(0, 1));
        CHECK.noBounds("no such PERSON", () -> x.pass(4, 3));
        promise(15, "lay", "Set down: the PLACE. "
                + "IllegalStateException: it is not worn, or it may not be set down there.");
        CHECK.due("in a PORCH", x.lay(2), 6);
        CHECK.due("where its LENDER is", x.lay(3), 4);
        CHECK.noState("it is not worn", () -> x.lay(2));
        x.goal(1, 3);
        x.hours(1);
        CHECK.noState("without a PORCH or its LENDER", () -> x.lay(1));
        CHECK.noBounds("no such STONE", () -> x.lay(-1));
        promise(16, "lift", "Lifted: LOAD of that one then. IllegalStateException: it is not set down where that one is.");
        CHECK.due("by whom it was not set down", x.place(6, 3), 4);
        CHECK.due("lifted", x.lift(2, 2), 8);
        CHECK.noState("it is worn", () -> x.lift(2, 2));
        CHECK.noState("it is not there", () -> x.lift(3, 2));
        CHECK.noBounds("no such PERSON", () -> x.lift(3, 3));
    }

    private static void actsOfPeople() {
        StoneBacks x = told();
        promise(17, "goal", "A GOAL is told: what it was.");
        CHECK.due("what it was", x.goal(2, 7), 6);
        CHECK.due("what it is", x.goal(2, 6), 7);
        CHECK.noBounds("no such PERSON", () -> x.goal(3, 0));
        CHECK.noBounds("no such PLACE", () -> x.goal(0, 12));
        promise(18, "rest", "A PERSON rests: TIRED that it was.");
        x.hours(1);
        CHECK.due("17 by 4", x.rest(0), 4);
        CHECK.due("then none", x.person(0, 4), 0);
        CHECK.noBounds("no such PERSON", () -> x.rest(3));
        x.undo();
        promise(19, "hours", "So many HOURS more (1 to 100): how many got HURT in these. "
                + "IllegalArgumentException: they are none.");
        CHECK.due("PERSON 0 is one on", x.person(0, 2), 5);
        CHECK.due("nobody got HURT", x.hours(1), 0);
        CHECK.due("not over THE BRIDGE", x.person(0, 2), 5);
        CHECK.due("10 and 10", x.person(1, 0), 120);
        CHECK.due("8 and 8", x.person(2, 0), 21);
        CHECK.due("HOUR", x.count(4), 24);
        CHECK.due("three STONES are heavier", x.count(10), 28);
        CHECK.due("the half of 8", x.person(0, 4), 4);
        CHECK.noArgument("0", () -> x.hours(0));
        CHECK.noArgument("101", () -> x.hours(101));
    }

    private static void ways() {
        StoneBacks x = told();
        promise(20, "way", "WAY; NONE.");
        CHECK.due("17 and SLOPE 1", x.way(0, 5), 2);
        CHECK.due("17 is above LIMIT", x.way(0, 6), NONE);
        CHECK.due("without LOAD", x.way(1, 6), 2);
        CHECK.due("none on", x.way(0, 4), 0);
        CHECK.noBounds("no such PERSON", () -> x.way(3, 0));
        CHECK.noBounds("no such PLACE", () -> x.way(0, 12));
        promise(21, "soonest", "SOONEST; NONE.");
        CHECK.due("1 and 2 alike", x.soonest(5), 1);
        CHECK.due("who is there", x.soonest(6), 2);
        CHECK.due("nobody", new StoneBacks().soonest(6), NONE);
        CHECK.noBounds("no such PLACE", () -> x.soonest(-1));
        promise(22, "cross", "CROSS.");
        CHECK.due("17", x.cross(0), false);
        CHECK.due("8", x.cross(2), true);
        CHECK.noBounds("no such PERSON", () -> x.cross(3) ? 1 : 0);
        promise(23, "shed", "SHED, as bits.");
        CHECK.due("either would do", x.shed(0), 1);
        CHECK.due("nothing", x.shed(2), 0);
        CHECK.noBounds("no such PERSON", () -> x.shed(3));
    }

    private static void shares() {
        StoneBacks x = told();
        promise(24, "share", "SHARE: the greatest LOAD (k NONE), or whom the k-th STONE goes to; NONE (also, "
                + "if there is no such one).");
        CHECK.due("10 and 7", x.share(4, NONE), 10);
        CHECK.due("the first", x.share(4, 0), 0);
        CHECK.due("the second", x.share(4, 1), 1);
        CHECK.due("no third", x.share(4, 2), NONE);
        CHECK.due("nobody is there", x.share(5, NONE), NONE);
        CHECK.noBounds("no such PLACE", () -> x.share(12, NONE));
        promise(25, "goes", "GOES; NONE.");
        CHECK.due("17 alone is above 16", x.goes(), NONE);
        x.pass(1, 1);
        CHECK.due("10, then 7 and 8", x.goes(), 2);
    }

    private static void debts() {
        StoneBacks x = told();
        promise(26, "pays", "PAYS, as bits (much false), or how much.");
        CHECK.due("STONE 0", x.pays(0, false), 1);
        CHECK.due("10", x.pays(0, true), 10);
        CHECK.due("7 and 8 are above 5", x.pays(2, false), 0);
        CHECK.due("nothing", x.pays(2, true), 0);
        CHECK.noBounds("no such PERSON", () -> x.pays(3, true));
        promise(27, "first", "FIRST; NONE.");
        CHECK.due("now", x.first(0), 0);
        CHECK.due("21 for 17", x.first(2), 2);
        CHECK.noBounds("no such PERSON", () -> x.first(3));
        promise(28, "owes", "BY OTHERS. IllegalArgumentException: both are one.");
        CHECK.due("2 to 0", x.owes(2, 0), true);
        CHECK.due("0 to 2", x.owes(0, 2), false);
        CHECK.due("1 to 0", x.owes(1, 0), false);
        CHECK.noArgument("both are one", () -> x.owes(1, 1) ? 1 : 0);
        CHECK.noBounds("no such PERSON", () -> x.owes(3, 3) ? 1 : 0);
        promise(29, "rests", "RESTS, as bits. IllegalArgumentException: both are one, or W is none.");
        CHECK.due("room for 8, whole 10, half 5: the whole, worn", x.rests(1, 0, 10), 1);
        CHECK.due("whole 40, half 20: the half, run with", x.rests(1, 0, 40), 8);
        CHECK.due("whole 30, half 15: none stays", x.rests(1, 0, 30), 0);
        CHECK.due("whole 36, half 18: the half alike, run with", x.rests(1, 0, 36), 8);
        CHECK.due("whole 18: worn or run alike", x.rests(1, 0, 18), 1);
        CHECK.noArgument("both are one", () -> x.rests(1, 1, 10));
        CHECK.noArgument("0", () -> x.rests(1, 0, 0));
        CHECK.noBounds("no such PERSON", () -> x.rests(3, 3, 0));
    }

    private static void scales() {
        StoneBacks x = told();
        x.pass(1, 1);
        promise(30, "scales", "Uses the TAPE up: SCALES (of each three bytes: left, right, 0 to 2; 36 bytes at most): "
                + "STONES, as bits (none false), or 1 if it can be that none is, 0 if not. "
                + "IllegalArgumentException: the TAPE is not that (there are no such PEOPLE, or both are one; "
                + "none may be told).");
        CHECK.due("none are told", x.scales(false), 7);
        Check.rows(x, 0, 1, 0);
        CHECK.due("10 and 7, not 5 and 7", x.scales(false), 6);
        CHECK.due("the TAPE is used up", x.end(1), false);
        Check.rows(x, 0, 1, 0);
        CHECK.due("or none", x.scales(true), 1);
        Check.rows(x, 0, 1, 0, 1, 2, 0);
        CHECK.due("7 and 4", x.scales(false), 4);
        Check.rows(x, 0, 1, 0, 1, 2, 0);
        CHECK.due("not none", x.scales(true), 0);
        refusesRows(x, 0, 3, 0);
        refusesRows(x, 1, 1, 1);
        refusesRows(x, 0, 1, 3);
        refusesRows(x, 0, 1);
        refusesRows(x, new int[39]);
        promise(31, "weigh", "Uses the TAPE up: WEIGH (the TAPE likewise); NONE. "
                + "IllegalArgumentException: the TAPE is not that.");
        CHECK.due("each parts one from three", x.weigh(), 1);
        Check.rows(x, 0, 1, 0);
        CHECK.due("1 and 2 part one from two", x.weigh(), 12);
        CHECK.due("the TAPE is used up", x.end(1), false);
        Check.rows(x, 1, 2, 0);
        CHECK.due("one case", x.weigh(), NONE);
    }

    private static void refusesRows(StoneBacks x, int... rows) {
        Check.rows(x, rows);
        CHECK.noArgument("scales", () -> x.scales(false));
        CHECK.due("the TAPE is used up", x.end(1), false);
        Check.rows(x, rows);
        CHECK.noArgument("weigh", x::weigh);
        CHECK.due("the TAPE is used up", x.end(1), false);
    }

    private static void places() {
        StoneBacks x = told();
        promise(32, "meet", "MEET; NONE.");
        CHECK.due("2 from PLACE 6", x.meet(), 4);
        CHECK.due("nobody", new StoneBacks().meet(), NONE);
        promise(33, "last", "LAST: in how many HOURS (who false), or who; NONE.");
        // TIRED of 0: 4 by 2 HOURS, 49 by 26, then 5 each HOUR
        CHECK.due("49 and 50", x.last(false), 36);
        CHECK.due("who", x.last(true), 0);
        CHECK.due("nobody", new StoneBacks().last(false), NONE);
        promise(34, "heap", "HEAP; NONE.");
        CHECK.due("none is set down", x.heap(), NONE);
        x.lay(2);
        CHECK.due("8", x.heap(), 6);
        x.lay(0);
        CHECK.due("10", x.heap(), 4);
        promise(35, "pairs", "PAIRS.");
        CHECK.due("7, 0 and 0", x.pairs(), 1);
        x.undo();
        x.undo();
        CHECK.due("17, 0 and 8", x.pairs(), 0);
        promise(36, "heaviest", "HEAVIEST; NONE.");
        CHECK.due("17", x.heaviest(), 0);
        CHECK.due("nobody", new StoneBacks().heaviest(), NONE);
    }

    private static void future() {
        StoneBacks x = told();
        promise(37, "gravel", "GRAVEL. IllegalArgumentException: N is none.");
        CHECK.due("HOUR 23", x.gravel(1), 0);
        CHECK.due("HOUR 24", x.gravel(2), 3);
        CHECK.due("HOUR 48", x.gravel(26), 6);
        CHECK.noArgument("201", () -> x.gravel(201));
        CHECK.noArgument("-1", () -> x.gravel(-1));
        promise(38, "ahead", "AHEAD of a PERSON what 0 PURSE, 1 the PLACE, 2 TIRED, 3 LOAD. "
                + "IllegalArgumentException: N is none; NoSuchElementException: another what.");
        int[] zero = {30, 5, 4, 19};
        int[] two = {21, 6, 2, 9};
        for (int what = 0; what < 4; what++) {
            CHECK.due("ahead(0, 2, " + what + ")", x.ahead(0, 2, what), zero[what]);
            CHECK.due("ahead(2, 2, " + what + ")", x.ahead(2, 2, what), two[what]);
        }
        CHECK.noBounds("no such PERSON", () -> x.ahead(3, 201, 4));
        CHECK.noArgument("201", () -> x.ahead(0, 201, 4));
        CHECK.noElement("another what", () -> x.ahead(0, 200, 4));
        CHECK.due("nothing stays", Sight.ofAll(x), Sight.ofAll(told()));
    }

    private static void draws() {
        // by a hundred the DRAWS are 38, 58, 13, then 15 and 51 from SEED 1; who is HURT draws no more
        StoneBacks x = told();
        Check.law(x, "hurt 40 if who<2;earn 1");
        promise(39, "trial", "TRIAL: PURSES (hurt false), or who is HURT, as bits. IllegalArgumentException: N is none.");
        CHECK.due("none yet", x.trial(0, true), 0);
        CHECK.due("38 hurts PERSON 0", x.trial(1, true), 1);
        CHECK.due("15 hurts PERSON 1", x.trial(2, true), 3);
        CHECK.due("1 and 2 earn 1 each HOUR", x.trial(2, false), 139);
        CHECK.noArgument("101", () -> x.trial(101, false));
        CHECK.noArgument("-1", () -> x.trial(-1, false));
        promise(40, "span", "SPAN: the fewest (most false), or the most. IllegalArgumentException: N is none.");
        // the first two DRAWS: 38 58, 8 17, 47 7, 17 66, 55 57, 26 15
        CHECK.due("from SEED 5", x.span(1, false), 0);
        CHECK.due("from SEED 2", x.span(1, true), 2);
        CHECK.noArgument("101", () -> x.span(101, true));
        CHECK.due("now as in the trial", x.hours(2), 2);
        CHECK.due("who", x.count(11), 3);
    }

    private static void memory() {
        StoneBacks x = told();
        promise(41, "led", "LED: how many rows (hour false), or the HOUR; NONE.");
        CHECK.due("no row", x.led(2, false), 0);
        CHECK.due("no HOUR", x.led(2, true), NONE);
        x.lay(2);
        x.hours(1);
        x.lift(2, 2);
        CHECK.due("two rows", x.led(2, false), 2);
        CHECK.due("the latest", x.led(2, true), 23);
        CHECK.noBounds("no such STONE", () -> x.led(3, true));
        promise(42, "log", "THE LOG so many ago (0 the latest) what 0 the HOUR, 1 the STONE, 2 what it was, 3 WEIGHT; "
                + "NONE without. NoSuchElementException: another what.");
        rowIs(x, 0, 23, 2, 5, 8);
        rowIs(x, 1, 22, 2, 4, 8);
        rowIs(x, 2, NONE, NONE, NONE, NONE);
        CHECK.noElement("log(0, 4)", () -> x.log(0, 4));
        CHECK.noElement("log(9, -1)", () -> x.log(9, -1));
        promise(43, "seed", "SEED: what it was.");
        CHECK.due("what one HOUR of three DRAWS leaves", x.seed(-7), 662824084);
        CHECK.due("what was told", x.seed(1), -7);
        promise(44, "undo", "UNDONE: whether there was one.");
        CHECK.due("lifted", x.undo(), true);
        CHECK.due("HOURS", x.undo(), true);
        CHECK.due("SEED is as ahead of them", x.seed(1), 1);
        CHECK.due("set down", x.undo(), true);
        CHECK.due("no more", x.undo(), false);
        promise(45, "image", "THE IMAGE is kept.");
        CHECK.due("none was kept", x.back(), false);
        x.image();
        Check.law(x, "hurt 1");
        x.pay(0);
        promise(46, "back", "One goes back to THE IMAGE: true; false, and nothing happens, if none was kept.");
        CHECK.due("back", x.back(), true);
        CHECK.due("as it was", Sight.ofNow(x), Sight.ofNow(told()));
        counts();
    }

    private static void rowIs(StoneBacks x, int ago, int... due) {
        for (int what = 0; what < due.length; what++) {
            CHECK.due("log(" + ago + ", " + what + ")", x.log(ago, what), due[what]);
        }
    }

    private static void counts() {
        promise(47, "count", "0 PEOPLE, 1 STONES, 2 texts of THE VALLEY, 3 LINES of THE LAW (NONE without one), 4 HOUR, "
                + "5 LIMIT, 6 PURSES of all together, 7 STONES worn, as bits, 8 STONES set down, as bits, "
                + "9 STONES paid, as bits, 10 WEIGHTS of all not paid together, 11 who is HURT, as bits, "
                + "12 rows of THE LOG, 13 acts that can be UNDONE. NONE for another what.");
        StoneBacks x = told();
        Check.law(x, "hurt 40 if who<1;earn 1");
        x.lay(2);
        x.pay(0);
        x.hours(1);
        int[] counts = {3, 3, 1, 2, 23, 16, 137, 2, 4, 1, 15, 1, 2, 3};
        for (int what = 0; what < counts.length; what++) {
            CHECK.due("count(" + what + ")", x.count(what), counts[what]);
        }
        CHECK.due("another what", x.count(14), NONE);
        CHECK.due("another what", x.count(-1), NONE);
    }
}
