/** The edges of promises 1 to 6, sentence by sentence: a new object, the TAPE, texts and their first wrong bytes. */
public final class EdgeTextsTest {
    private static final Check CHECK = new Check();
    private static final int MIN = Integer.MIN_VALUE;
    private static final int MAX = Integer.MAX_VALUE;
    private static final int BLANKS = 0x20202020;
    private static final String TWO = "person 1 back 1 at 1;person 1 back 1 at 1;";
    private static final String ONE = "person 1 back 1 at 1";

    public static void main(String[] args) {
        atFirst();
        fed();
        ended();
        valleyTexts();
        valleyLines();
        valleyNumbers();
        peopleInStones();
        digits();
        wordsAndBlanks();
        emptyTexts();
        tooMany();
        lawLines();
        lawNumbers();
        lawGrammar();
        lawDepth();
        wrongThings();
        moreMustCome();
        nothingStays();
        tapesUsedUp();
        faults();
        CHECK.end();
    }

    // ---- promise 1

    private static void atFirst() {
        CHECK.of("A valley without PEOPLE.");
        StoneBacks x = new StoneBacks();
        CHECK.due("PEOPLE", x.count(0), 0);
        CHECK.due("STONES", x.count(1), 0);
        CHECK.noBounds("PERSON 0", () -> x.person(0, 0));
        CHECK.noBounds("STONE 0", () -> x.stone(0, 0));
        CHECK.of("SLOPE 0 to 3 of each (0 at first), a PORCH or not (not at first)");
        for (int place = 0; place < 12; place++) {
            CHECK.due("SLOPE of " + place, x.place(place, 0), 0);
            CHECK.due("PORCH of " + place, x.place(place, 1), 0);
        }
        CHECK.of("LIMIT 1 to 99 (40 at first)");
        CHECK.due("LIMIT", x.count(5), 40);
        CHECK.of("HOUR: 0 to 9999 (0 at first)");
        CHECK.due("HOUR", x.count(4), 0);
        CHECK.of("(SEED 1 at first)");
        CHECK.due("SEED", x.seed(1), 1);
        CHECK.of("a GOAL (the PLACE at first), TIRED 0 to 99 (0 at first), HURT or not (not at first)");
        StoneBacks y = Check.told("person 1 back 1 at 11;person 1 back 1 at 0");
        CHECK.due("GOAL at 11", y.person(0, 3), 11);
        CHECK.due("GOAL at 0", y.person(1, 3), 0);
        CHECK.due("TIRED", y.person(0, 4), 0);
        CHECK.due("HURT", y.person(0, 5), 0);
        CHECK.of("worn (by its BEARER, a PERSON; the DEBTOR at first)");
        CHECK.due("BEARER", Check.told(TWO + "stone 1 of 1 to 0").stone(0, 4), 1);
    }

    // ---- promises 2 and 3

    private static void fed() {
        CHECK.of("Twenty bytes come behind the TAPE, of each number the highest first: how many it has");
        StoneBacks x = new StoneBacks();
        // "porc" "h 11" ";lim" "it 7" "    "
        CHECK.due("the first", x.feed(0x706f7263, 0x68203131, 0x3b6c696d, 0x69742037, BLANKS), 20);
        CHECK.due("behind it", x.feed(0x3b686f75, 0x72203520, BLANKS, BLANKS, BLANKS), 40);
        CHECK.due("the text", x.valley(), 1);
        CHECK.due("PORCH", x.place(11, 1), 1);
        CHECK.due("LIMIT", x.count(5), 7);
        CHECK.due("HOUR", x.count(4), 5);
        CHECK.due("all bits of a byte count", x.feed(0x20202020, 0x202020ff, MIN, MAX, -1), 20);
        CHECK.noArgument("255 is no blank", () -> x.valley());
        CHECK.due("255 stands seventh", x.fault(), 7);
        CHECK.due("128", x.feed(MIN, BLANKS, BLANKS, BLANKS, BLANKS), 20);
        CHECK.noArgument("128 is none either", () -> x.valley());
        CHECK.due("128 is the first", x.fault(), 0);
        CHECK.of("NONE, and none come, if it would have more than 400.");
        StoneBacks y = new StoneBacks();
        for (int n = 20; n <= 400; n += 20) {
            CHECK.due("feed", y.feed(BLANKS, BLANKS, BLANKS, BLANKS, BLANKS), n);
        }
        CHECK.due("420 are too many", y.feed(-1, -1, -1, -1, -1), -1);
        CHECK.due("it has 400", y.end(400), true);
        CHECK.due("it has no more", y.end(401), false);
        y.end(381);
        CHECK.due("401 are too many", y.feed(-1, -1, -1, -1, -1), -1);
        CHECK.due("it has 381 still", y.end(382), false);
        CHECK.due("all of them", y.end(381), true);
        CHECK.due("blanks alone", y.valley(), 1);
        Check.tape(y, " ".repeat(380));
        CHECK.due("380 and 20 are 400", y.feed(BLANKS, BLANKS, BLANKS, BLANKS, BLANKS), 400);
        CHECK.due("blanks alone", y.valley(), 2);
    }

    private static void ended() {
        CHECK.of("The TAPE has its first n bytes alone: true");
        StoneBacks x = new StoneBacks();
        CHECK.due("0 of none", x.end(0), true);
        Check.tape(x, "limit 12");
        CHECK.due("all of 8", x.end(8), true);
        CHECK.due("7 of 8", x.end(7), true);
        CHECK.due("the 8th is gone", x.end(8), false);
        CHECK.due("the text", x.valley(), 1);
        CHECK.due("limit 1", x.count(5), 1);
        Check.tape(x, "limit 12");
        CHECK.due("0 of 8", x.end(0), true);
        CHECK.due("an empty text", x.valley(), 2);
        CHECK.due("limit 1 still", x.count(5), 1);
        Check.tape(x, "limit 3");
        CHECK.due("more come behind what is left", x.feed(0x34202020, BLANKS, BLANKS, BLANKS, BLANKS), 27);
        x.valley();
        CHECK.due("limit 34", x.count(5), 34);
        CHECK.of("false, and nothing happens, if it has fewer, or n is below 0.");
        StoneBacks y = new StoneBacks();
        CHECK.due("1 of none", y.end(1), false);
        CHECK.due("-1 of none", y.end(-1), false);
        Check.tape(y, "limit 12");
        CHECK.due("9 of 8", y.end(9), false);
        CHECK.due("-1 of 8", y.end(-1), false);
        CHECK.due("MAX", y.end(MAX), false);
        CHECK.due("MIN", y.end(MIN), false);
        CHECK.due("8 are there", Sight.tapeLength(y), 8);
        y.valley();
        CHECK.due("limit 12", y.count(5), 12);
    }

    // ---- promise 4

    private static void right(String text) {
        StoneBacks x = new StoneBacks();
        CHECK.due("right: '" + text + "'", Check.valley(x, text), 1);
        CHECK.due("no fault of '" + text + "'", x.fault(), -1);
    }

    private static void wrong(String text, int fault) {
        StoneBacks x = new StoneBacks();
        CHECK.noArgument("wrong: '" + text + "'", () -> Check.valley(x, text));
        CHECK.due("fault of '" + text + "'", x.fault(), fault);
        CHECK.due("texts behind '" + text + "'", x.count(2), 0);
    }

    private static void valleyTexts() {
        CHECK.of("THE VALLEY is told in texts (at most 12, one behind another)");
        StoneBacks x = new StoneBacks();
        for (int n = 1; n <= 12; n++) {
            CHECK.due("text " + n, Check.valley(x, "limit " + n), n);
            CHECK.due("texts", x.count(2), n);
        }
        CHECK.of("IllegalArgumentException: it is wrong; UnsupportedOperationException: there are 12.");
        CHECK.fails("a 13th", UnsupportedOperationException.class, () -> Check.valley(x, "limit 13"));
        CHECK.due("it is read", x.fault(), -1);
        CHECK.fails("an empty 13th", UnsupportedOperationException.class, () -> x.valley());
        CHECK.noArgument("a wrong 13th", () -> Check.valley(x, "limit 100"));
        CHECK.due("its fault", x.fault(), 6);
        CHECK.fails("a 13th", UnsupportedOperationException.class, () -> Check.valley(x, "limit 13"));
        CHECK.due("the fault goes by a right one that is refused", x.fault(), -1);
        CHECK.due("texts", x.count(2), 12);
        CHECK.due("LIMIT of the 12th", x.count(5), 12);
        // a wrong text is none of the twelve
        StoneBacks y = new StoneBacks();
        for (int n = 1; n <= 12; n++) {
            CHECK.noArgument("wrong", () -> Check.valley(y, "x"));
            CHECK.due("right " + n, Check.valley(y, ""), n);
        }
    }

    private static void valleyLines() {
        CHECK.of("LINE { ; LINE }, at most 14: person N back N at N [ goal N ] | stone N of H to H [ worn by H ]");
        right("hour 1" + ";hour 1".repeat(12));
        right("hour 1" + ";hour 1".repeat(13));
        wrong("hour 1" + ";hour 1".repeat(14), 98);
        wrong(";hour 1", 0);
        wrong("hour 1;", 7);
        wrong("hour 1;;hour 1", 7);
        wrong("hour 1 hour 1", 7);
        wrong("hour 1,hour 1", 6);
        wrong("person 1 at 1 back 1", 9);
        wrong("person 1 back 1 goal 1 at 1", 16);
        wrong(ONE + " goal 1 goal 1", 28);
        wrong(TWO + "stone 1 to 0 of 1", TWO.length() + 8);
        wrong(TWO + "stone 1 of 0 to 1 worn by 0 worn by 0", TWO.length() + 28);
        wrong(TWO + "stone 1 of 0 to 1 by 0", TWO.length() + 18);
        wrong("slope 1 1 1", 10);
        wrong("porch 1 1", 8);
        wrong("limit 1 1", 8);
        wrong("hour 1 1", 7);
    }

    private static void valleyNumbers() {
        CHECK.of("N of person: PURSE 0 to 999");
        right("person 0 back 1 at 1");
        right("person 999 back 1 at 1");
        wrong("person 1000 back 1 at 1", 7);
        CHECK.of("PURSE 0 to 9999, BACK 1 to 60");
        right("person 1 back 60 at 1");
        wrong("person 1 back 0 at 1", 14);
        wrong("person 1 back 61 at 1", 14);
        CHECK.of("at, goal, porch, the first N of slope: a PLACE");
        right("person 1 back 1 at 0 goal 11");
        right("person 1 back 1 at 11 goal 0");
        wrong("person 1 back 1 at 12 goal 0", 19);
        wrong("person 1 back 1 at 0 goal 12", 26);
        right("porch 0;porch 11");
        wrong("porch 12", 6);
        right("slope 0 1;slope 11 1");
        wrong("slope 12 1", 6);
        CHECK.of("SLOPE 0 to 3 of each");
        right("slope 1 0;slope 1 3");
        wrong("slope 1 4", 8);
        CHECK.of("N of stone: WEIGHT");
        right(TWO + "stone 1 of 0 to 1;stone 40 of 0 to 1");
        wrong(TWO + "stone 0 of 0 to 1", TWO.length() + 6);
        wrong(TWO + "stone 41 of 0 to 1", TWO.length() + 6);
        CHECK.of("limit: 1 to 99; hour: 0 to 999.");
        right("limit 1;limit 99;hour 0;hour 999");
        wrong("limit 0", 6);
        wrong("limit 100", 6);
        wrong("hour 1000", 5);
    }

    private static void peopleInStones() {
        CHECK.of("H: a PERSON that there is by then");
        wrong("stone 1 of 0 to 1", 11);
        wrong(ONE + ";stone 1 of 0 to 1", 37);
        wrong(ONE + ";stone 1 of 1 to 0", 32);
        wrong(ONE + ";stone 1 of 0 to 1;" + ONE, 37);
        right(TWO + "stone 1 of 0 to 1;stone 1 of 1 to 0");
        wrong(TWO + "stone 1 of 0 to 2", TWO.length() + 16);
        wrong(TWO + "stone 1 of 2 to 0", TWO.length() + 11);
        wrong(TWO + "stone 1 of 0 to 1 worn by 2", TWO.length() + 26);
        right(TWO + ONE + ";stone 1 of 0 to 1 worn by 2");
        StoneBacks x = Check.told(ONE);
        CHECK.due("one of the text before", Check.valley(x, ONE + ";stone 1 of 0 to 1"), 2);
        CHECK.due("one of the text before", Check.valley(x, "stone 1 of 1 to 0"), 3);
        CHECK.of("to: the LENDER, not the DEBTOR, else it is wrong");
        wrong(TWO + "stone 1 of 0 to 0", TWO.length() + 16);
        wrong(TWO + "stone 1 of 1 to 1", TWO.length() + 16);
        wrong(TWO + "stone 1 of 1 to 001", TWO.length() + 16);
        CHECK.of("by: not the LENDER, else it is wrong;");
        wrong(TWO + "stone 1 of 0 to 1 worn by 1", TWO.length() + 26);
        wrong(TWO + "stone 1 of 1 to 0 worn by 0", TWO.length() + 26);
        right(TWO + "stone 1 of 0 to 1 worn by 0");
    }

    private static void digits() {
        CHECK.of("Numbers are of 1 to 3 digits.");
        right("person 000 back 001 at 000 goal 011");
        right("person 00 back 060 at 01 goal 000");
        wrong("person 0000 back 1 at 1", 7);
        wrong("person 1 back 0001 at 1", 14);
        wrong("person 1 back 1 at 0001", 19);
        wrong("person 1 back 1 at 1 goal 0001", 26);
        wrong(TWO + "stone 0001 of 0 to 1", TWO.length() + 6);
        wrong(TWO + "stone 1 of 0000 to 1", TWO.length() + 11);
        wrong(TWO + "stone 1 of 0 to 0001", TWO.length() + 16);
        wrong(TWO + "stone 1 of 0 to 1 worn by 0000", TWO.length() + 26);
        wrong("slope 0001 1", 6);
        wrong("slope 1 0001", 8);
        wrong("porch 0001", 6);
        wrong("limit 0001", 6);
        wrong("hour 0001", 5);
        wrong("hour 99999999999999999999", 5);
        wrong("hour 4294967296", 5);
        right("slope 001 001;porch 001;limit 001;hour 001");
        wrong("hour 1 2", 7);
        wrong("hour -1", 5);
        wrong("hour +1", 5);
    }

    private static void wordsAndBlanks() {
        CHECK.of("Words are as long as a to z go on");
        right("hour1;limit2;slope3 3");
        right("person1back1at1goal1");
        right(TWO + "stone1of0to1worn by0");
        wrong(TWO + "stone1of0to1wornby0", TWO.length() + 12);
        wrong("hours 1", 0);
        wrong("houra1", 0);
        wrong("hourz1", 0);
        wrong("hourlimit 1", 0);
        wrong("hou r 1", 0);
        wrong("hour` 1", 4);
        wrong("hour{ 1", 4);
        wrong("hourA1", 4);
        wrong("Hour 1", 0);
        CHECK.of("between all there may be blanks (32), also ahead and behind.");
        right("   hour   1   ;   hour   1   ");
        right(" person 1 back 1 at 1 goal 1 ");
        right(" ".repeat(394) + "hour 1");
        right("hour 1" + " ".repeat(394));
        right("hour" + " ".repeat(395) + "1");
        wrong("hour\t1", 4);
        wrong("hour\n1", 4);
        wrong("hour\u00001", 4);
        wrong("hour\u001f1", 4);
        wrong("hour!1", 4);
        wrong("hour\u00a01", 4);
        wrong("hour 1\u0000", 6);
    }

    private static void emptyTexts() {
        CHECK.of("A text that is empty, or blanks alone, has no LINE.");
        StoneBacks x = new StoneBacks();
        CHECK.due("valley of nothing", x.valley(), 1);
        CHECK.due("valley of a blank", Check.valley(x, " "), 2);
        CHECK.due("valley of 400 blanks", Check.valley(x, " ".repeat(400)), 3);
        CHECK.due("no law", x.count(3), -1);
        CHECK.due("law of nothing", x.law(), 0);
        CHECK.due("a law without LINES", x.count(3), 0);
        CHECK.due("law of a blank", Check.law(x, " "), 0);
        CHECK.due("law of 400 blanks", Check.law(x, " ".repeat(400)), 0);
        CHECK.due("no fault", x.fault(), -1);
        StoneBacks y = Check.told(TWO + "stone 20 of 0 to 1");
        y.law();
        CHECK.due("a law without LINES tires by 0", y.does(0, 0), 0);
        CHECK.due("earns by 0", y.does(1, 1), 0);
        CHECK.due("hurts by 0", y.does(0, 2), 0);
    }

    private static void tooMany() {
        CHECK.of("of a LINE, a PERSON, a STONE too many, the first word");
        wrong("hour 1;".repeat(14) + "  hour 1", 100);
        wrong("hour 1;".repeat(14) + "  person x", 100);
        wrong("hour 1;".repeat(14) + "  ?", 100);
        CHECK.of("PEOPLE (at most 6, numbered from 0 on)");
        right(ONE + (";" + ONE).repeat(5));
        wrong(ONE + (";" + ONE).repeat(6), 6 * 21);
        wrong((ONE + ";").repeat(6) + "  person 1000", 6 * 21 + 2);
        StoneBacks x = Check.told(ONE + (";" + ONE).repeat(4));
        CHECK.noArgument("two more than five", () -> Check.valley(x, ONE + ";" + ONE));
        CHECK.due("the seventh", x.fault(), 21);
        CHECK.due("a sixth", Check.valley(x, ONE), 2);
        CHECK.noArgument("a seventh", () -> Check.valley(x, " " + ONE));
        CHECK.due("its first word", x.fault(), 1);
        CHECK.due("six", x.count(0), 6);
        CHECK.due("numbered from 0 on", x.person(5, 0), 1);
        CHECK.of("STONES (at most 10, numbered from 0 on)");
        String stone = "stone 1 of 0 to 1;";
        right(TWO + stone.repeat(9) + "stone 1 of 0 to 1");
        wrong(TWO + stone.repeat(10) + " stone 1 of 0 to 1", TWO.length() + 181);
        wrong(TWO + stone.repeat(10) + " stone x", TWO.length() + 181);
        StoneBacks y = Check.told(TWO + stone.repeat(8) + "stone 1 of 0 to 1");
        CHECK.due("a tenth by breaking is none of 1", y.count(1), 9);
        CHECK.due("a tenth", Check.valley(y, "stone 1 of 0 to 1"), 2);
        y.pay(0);
        CHECK.noArgument("a paid one counts too", () -> Check.valley(y, "stone 1 of 0 to 1"));
        CHECK.due("its first word", y.fault(), 0);
    }

    // ---- promise 5

    private static void rightLaw(String text, int lines) {
        StoneBacks x = new StoneBacks();
        CHECK.due("LINES of '" + text + "'", Check.law(x, text), lines);
        CHECK.due("count(3) of '" + text + "'", x.count(3), lines);
        CHECK.due("no fault of '" + text + "'", x.fault(), -1);
    }

    private static void wrongLaw(String text, int fault) {
        StoneBacks x = new StoneBacks();
        CHECK.noArgument("wrong: '" + text + "'", () -> Check.law(x, text));
        CHECK.due("fault of '" + text + "'", x.fault(), fault);
        CHECK.due("no law behind '" + text + "'", x.count(3), -1);
    }

    private static void wrongCondition(String condition, int fault) {
        wrongLaw("tire 1 if " + condition, 10 + fault);
    }

    private static void rightCondition(String condition) {
        rightLaw("tire 1 if " + condition, 1);
    }

    private static void lawLines() {
        CHECK.of("THE LAW (a text, in place of the one before): LINE { ; LINE }, at most 12");
        rightLaw("tire 1", 1);
        rightLaw("tire 1" + ";earn 1".repeat(10), 11);
        rightLaw("tire 1" + ";hurt 1".repeat(11), 12);
        wrongLaw("tire 1" + ";hurt 1".repeat(12), 84);
        wrongLaw("tire 1;".repeat(12) + "  x", 86);
        wrongLaw("tire 1;".repeat(12) + "  ", 86);
        wrongLaw("tire 1;", 7);
        wrongLaw(";tire 1", 0);
        wrongLaw("tire 1;;tire 1", 7);
        StoneBacks x = Check.told(ONE + ";" + ONE);
        Check.law(x, "tire 7;tire 8;earn 5;hurt 6");
        Check.law(x, "tire 1");
        CHECK.due("of the one before nothing stays: LINES", x.count(3), 1);
        CHECK.due("TIRES", x.does(0, 0), 1);
        CHECK.due("EARNS", x.does(0, 1), 0);
        CHECK.due("HURTS", x.does(0, 2), 0);
        CHECK.due("there is no end of laws", x.count(2), 1);
        for (int n = 0; n < 14; n++) {
            CHECK.due("law", Check.law(x, "tire " + n), 1);
        }
        CHECK.due("the latest", x.does(1, 0), 13);
        String sum = "1+".repeat(180);
        for (int n = 1; n < 9; n++) {
            Check.law(x, "tire " + n + " if " + sum + "1<181");
            CHECK.due("a long one, not by 181", x.does(0, 0), 0);
            Check.law(x, "tire " + n + " if " + sum + "1<182");
            CHECK.due("a long one, by 181", x.does(0, 0), n);
        }
    }

    private static void lawNumbers() {
        CHECK.of("All numbers are of 1 to 3 digits (N 0 to 99).");
        rightLaw("tire 0;tire 99;earn 0;earn 99;hurt 0;hurt 99", 6);
        rightLaw("tire 000;earn 099;hurt 00", 3);
        wrongLaw("tire 100", 5);
        wrongLaw("earn 100", 5);
        wrongLaw("hurt 100", 5);
        wrongLaw("tire 0099", 5);
        rightCondition("0<999");
        rightCondition("000<999+999");
        wrongCondition("0<1000", 2);
        wrongCondition("1000>0", 0);
        wrongCondition("0<0000", 2);
        wrongCondition("0+0001>0", 2);
        wrongCondition("0+4294967296>0", 2);
        CHECK.of("LINE { ; LINE }, at most 12: tire N [ if C ] | earn N [ if C ] | hurt N [ if C ].");
        wrongLaw("tire", 4);
        wrongLaw("tire if there", 5);
        wrongLaw("tire 1 there", 7);
        wrongLaw("tire 1 2", 7);
        wrongLaw("tired 1", 0);
        wrongLaw("person 1", 0);
        wrongLaw("1 tire", 0);
    }

    private static void lawGrammar() {
        CHECK.of("C: ALL { or ALL }; ALL: ATOM { and ATOM }; ATOM: not ATOM | ( C ) | there | light | SUM < SUM | SUM > SUM.");
        rightCondition("there or light and there or light");
        wrongCondition("or there", 0);
        wrongCondition("there or", 8);
        wrongCondition("there and", 9);
        wrongCondition("there or or light", 9);
        wrongCondition("there and or light", 10);
        wrongCondition("there light", 6);
        wrongCondition("there not light", 6);
        wrongCondition("there (light)", 6);
        wrongCondition("(there) (light)", 8);
        wrongCondition("not", 3);
        wrongCondition("not or", 4);
        wrongCondition("()", 1);
        wrongCondition("(there", 6);
        wrongCondition("((there)", 8);
        wrongCondition("there)", 5);
        wrongCondition("(there))", 7);
        wrongCondition("(there;tire 1", 6);
        wrongCondition("there<1", 5);
        wrongCondition("1<there", 2);
        wrongCondition("1<light", 2);
        CHECK.of("SUM: PART { + PART }; PART: NUMBER | who | load | back | place | slope | tired | hour.");
        rightCondition("who+load+back+place+slope+tired+hour+1>1+hour+tired+slope+place+back+load+who");
        wrongCondition("1", 1);
        wrongCondition("1;tire 1", 1);
        wrongCondition("1+", 2);
        wrongCondition("1+<1", 2);
        wrongCondition("+1<1", 0);
        wrongCondition("1<", 2);
        wrongCondition("<1", 0);
        wrongCondition("1<1+", 4);
        wrongCondition("1<1<1", 3);
        wrongCondition("1<>1", 2);
        wrongCondition("1=1", 1);
        wrongCondition("1 1<1", 2);
        wrongCondition("who who<1", 4);
        wrongCondition("(1)<1", 2);
        wrongCondition("1<(1)", 2);
        wrongCondition("purse<1", 0);
        wrongCondition("goal<1", 0);
        wrongCondition("whos<1", 0);
    }

    private static void lawDepth() {
        CHECK.of("( and not within one another at most 6 deep.");
        rightCondition("((((((there))))))");
        rightCondition("not not not not not not there");
        rightCondition("not(not(not(there)))");
        rightCondition("(not(not(not there)))");
        rightCondition("((((((there))))))or((((((there))))))and not not not not not not there");
        rightCondition("(((((not there and not light or(light))))))");
        rightCondition("(((((not 1<1)and(light)))))");
        rightLaw("tire 1 if ((((((there))))));tire 1 if ((((((there))))))", 2);
        CHECK.of("the ( or not that is a 7th one deep");
        wrongCondition("(((((((there)))))))", 6);
        wrongCondition("not not not not not not not there", 24);
        wrongCondition("((((((not there))))))", 6);
        wrongCondition("not not not not not not (there)", 24);
        wrongCondition("((((((there and (light)))))))", 16);
        wrongCondition("((((((there or not light))))))", 15);
        wrongCondition("(((((not (there))))))", 9);
        wrongCondition("(((((not there and not (light))))))", 23);
        wrongCondition("((((((  (", 8);
        wrongCondition("(((((((", 6);
    }

    // ---- promise 6 and the first wrong byte

    private static void wrongThings() {
        CHECK.of("The first wrong byte: the begin of the first thing that cannot stand there (a number of more digits, or out "
                + "of its bounds, or that tells none that can be; a word that is none");
        wrong("hour 1 ;  limit  1000", 17);
        wrong("hour 1 ;  limit  100", 17);
        wrong("hour 1 ;  limits  100", 10);
        wrong("hour 1 ;  back 1", 10);
        wrong("hour 1 ;  12", 10);
        wrong("hour hour", 5);
        wrong("hour ;", 5);
        wrong(TWO + "stone 1 of 7 to 9", TWO.length() + 11);
        wrong("?", 0);
        wrong("hour 1;limit 0;hour 9999", 13);
        wrong(" ".repeat(399) + "?", 399);
        wrong(";".repeat(400), 0);
        wrong("hour" + "1 ".repeat(198), 6);
        wrong("hour 1" + ";".repeat(394), 7);
        wrongLaw("tire 1 if there or lights", 19);
        wrongLaw("tire 100;earn 100", 5);
        wrongLaw(" ".repeat(399) + ")", 399);
        wrongLaw("(".repeat(400), 0);
        wrongLaw("tire 1 if 1<" + "1+".repeat(193) + "1)", 399);
    }

    private static void moreMustCome() {
        CHECK.of("or the text's length, if more must come.");
        String[] parts = {"person", " 1", " back", " 1", " at"};
        String text = "";
        for (String part : parts) {
            text += part;
            wrong(text, text.length());
            wrong(text + "   ", text.length() + 3);
        }
        right(text + " 1");
        wrong(text + " 1 goal", text.length() + 7);
        String[] stone = {"stone", " 1", " of", " 0", " to"};
        text = TWO;
        for (String part : stone) {
            text += part;
            wrong(text, text.length());
        }
        right(text + " 1");
        wrong(text + " 1 worn", text.length() + 7);
        wrong(text + " 1 worn by", text.length() + 10);
        wrong("slope", 5);
        wrong("slope 1", 7);
        wrong("porch", 5);
        wrong("limit", 5);
        wrong("hour", 4);
        wrong("hour 1;", 7);
        wrong("hour 1;" + " ".repeat(393), 400);
        wrongLaw("tire", 4);
        wrongLaw("tire 1;", 7);
        wrongLaw("tire 1 if", 9);
        wrongLaw("tire 1 if (", 11);
        wrongLaw("tire 1 if (there ", 17);
        wrongLaw("tire 1 if load", 14);
        wrongLaw("tire 1 if load<" + " ".repeat(385), 400);
        wrongLaw("tire 1 if " + "1+".repeat(195), 400);
    }

    private static void nothingStays() {
        CHECK.of("Of a wrong text nothing stays.");
        String text = "person 3 back 60 at 4 goal 9;person 10 back 5 at 4;stone 20 of 1 to 0;hour 23;porch 4;slope 4 1";
        String due = Sight.ofNow(Check.told(text));
        String[] wrongs = {"person 1 back 1 at 1;stone 1 of 2 to 0;slope 1 3;porch 7;limit 9;hour 5;x", "limit 5;limit 100",
            "person 1 back 1 at 1;", "hour 7;stone 1 of 0 to 0"};
        for (String wrong : wrongs) {
            StoneBacks x = Check.told(text);
            CHECK.noArgument(wrong, () -> Check.valley(x, wrong));
            CHECK.due("all behind '" + wrong + "'", Sight.ofNow(x), due);
        }
        StoneBacks x = Check.told(text);
        Check.law(x, "tire 5 if load>1;earn 3");
        due = Sight.ofNow(x);
        CHECK.noArgument("a wrong law", () -> Check.law(x, "tire 9;earn 9;hurt 9;hurt 100"));
        CHECK.due("all behind a wrong law", Sight.ofNow(x), due);
        CHECK.noArgument("wrong at its end", () -> Check.law(x, "tire 5 if load>999;"));
        CHECK.due("all behind a wrong law", Sight.ofNow(x), due);
        // nor anything of what stood open in it
        String[] open = {"tire 1 if ((((((", "tire 1 if not not not not not not x", "tire 1 if (there or there and not x",
            "tire 1 if there or there and x", "tire 1 if ((((((there)))))) and (x", "tire 1 if 1+1+1+1<x"};
        for (String wrong : open) {
            StoneBacks y = Check.told("person 3 back 60 at 4;person 3 back 60 at 4 goal 5");
            CHECK.noArgument(wrong, () -> Check.law(y, wrong));
            CHECK.due("a right one behind '" + wrong + "'", Check.law(y, "tire 1 if ((((((there))))));earn 1 if not there"), 2);
            CHECK.due("there", y.does(0, 0) * 10 + y.does(0, 1), 10);
            CHECK.due("not there", y.does(1, 0) * 10 + y.does(1, 1), 1);
            CHECK.noArgument(wrong, () -> Check.law(y, wrong));
            CHECK.noArgument("a wrong one", () -> Check.law(y, "tire 1 if (there"));
            CHECK.due("its fault", y.fault(), 16);
            CHECK.noArgument(wrong, () -> Check.law(y, wrong));
            CHECK.noArgument("a wrong one", () -> Check.law(y, "tire 1 if there)"));
            CHECK.due("its fault", y.fault(), 15);
        }
    }

    private static void tapesUsedUp() {
        CHECK.of("Uses the TAPE up: a text of THE VALLEY: how many there are.");
        StoneBacks x = new StoneBacks();
        CHECK.due("right", Check.valley(x, "hour 1"), 1);
        CHECK.due("the TAPE", Sight.tapeLength(x), 0);
        CHECK.noArgument("wrong", () -> Check.valley(x, "hour x"));
        CHECK.due("the TAPE", Sight.tapeLength(x), 0);
        for (int n = 2; n <= 12; n++) {
            x.valley();
        }
        CHECK.fails("a 13th", UnsupportedOperationException.class, () -> Check.valley(x, "hour 1"));
        CHECK.due("the TAPE", Sight.tapeLength(x), 0);
        CHECK.of("Uses the TAPE up: THE LAW: how many LINES.");
        CHECK.due("right", Check.law(x, "tire 1;tire 1"), 2);
        CHECK.due("the TAPE", Sight.tapeLength(x), 0);
        CHECK.noArgument("wrong", () -> Check.law(x, "tire x"));
        CHECK.due("the TAPE", Sight.tapeLength(x), 0);
    }

    private static void faults() {
        CHECK.of("The first wrong byte of the latest text that was read; NONE without one, and ahead of any.");
        StoneBacks x = new StoneBacks();
        CHECK.due("ahead of any", x.fault(), -1);
        CHECK.noArgument("wrong", () -> Check.valley(x, "hour x"));
        CHECK.due("5", x.fault(), 5);
        CHECK.due("5 again", x.fault(), 5);
        CHECK.noArgument("wrong", () -> Check.law(x, "tire 1 x"));
        CHECK.due("7", x.fault(), 7);
        CHECK.noArgument("wrong", () -> Check.valley(x, "x"));
        CHECK.due("0", x.fault(), 0);
        x.valley();
        CHECK.due("none of a right valley", x.fault(), -1);
        CHECK.noArgument("wrong", () -> Check.valley(x, "hour"));
        CHECK.due("4", x.fault(), 4);
        x.law();
        CHECK.due("none of a right law", x.fault(), -1);
        CHECK.noArgument("wrong", () -> Check.law(x, "x"));
        Check.rows(x, 0, 1, 1);
        CHECK.noArgument("the scales read no text", () -> x.scales(true));
        CHECK.due("0 still", x.fault(), 0);
        x.scales(true);
        x.weigh();
        CHECK.due("0 still", x.fault(), 0);
    }
}
