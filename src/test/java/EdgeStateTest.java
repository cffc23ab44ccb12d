/** The edges of promises 7 to 10 and 47, sentence by sentence: what is told of PEOPLE, STONES, PLACES and of all. */
public final class EdgeStateTest {
    private static final Check CHECK = new Check();
    private static final int MIN = Integer.MIN_VALUE;
    private static final int MAX = Integer.MAX_VALUE;

    public static void main(String[] args) {
        people();
        bowed();
        whatOfPeople();
        doesWithoutText();
        doesByText();
        partsOfSums();
        whatOneDoes();
        stones();
        places();
        counts();
        CHECK.end();
    }

    private static String people(int many) {
        return "person 7 back 9 at 3" + ";person 7 back 9 at 3".repeat(many - 1);
    }

    private static String stones(int many, int weight) {
        return (";stone " + weight + " of 0 to 1").repeat(many);
    }

    // ---- promise 7

    private static void people() {
        CHECK.of("LOAD of a PERSON: WEIGHTS of all STONES that it wears, together.");
        StoneBacks x = Check.told(people(2) + stones(10, 40));
        CHECK.due("ten of 40", x.person(0, 6), 400);
        CHECK.due("ten bits", x.person(0, 7), 1023);
        CHECK.due("none", x.person(1, 6), 0);
        CHECK.due("no bits", x.person(1, 7), 0);
        CHECK.of("OWES: WEIGHTS of all STONES not paid of a DEBTOR, together. DUE to a LENDER likewise.");
        CHECK.due("ten of 40", x.person(0, 8), 400);
        CHECK.due("nothing", x.person(1, 8), 0);
        CHECK.due("ten of 40", x.person(1, 9), 400);
        CHECK.due("nothing", x.person(0, 9), 0);
        StoneBacks y = Check.told(people(2) + stones(2, 7));
        y.pay(0);
        CHECK.due("one paid: OWES", y.person(0, 8), 7);
        CHECK.due("one paid: DUE", y.person(1, 9), 7);
        y.lay(1);
        CHECK.due("one set down: OWES", y.person(0, 8), 7);
        CHECK.due("one set down: DUE", y.person(1, 9), 7);
        CHECK.due("one set down: LOAD", y.person(0, 6), 0);
        CHECK.of("BEARS for others: STONES that one wears and does not owe, as bits.");
        StoneBacks z = Check.told(people(3) + stones(7, 1) + ";stone 1 of 0 to 1 worn by 2");
        CHECK.due("none", z.person(0, 10), 0);
        CHECK.due("the eighth", z.person(2, 10), 128);
        z.split(z.lend(1, 2, 2));
        CHECK.due("its own are none", z.person(2, 10), 128);
        z.pass(0, 2);
        CHECK.due("the first, too", z.person(2, 10), 129);
        z.pass(7, 0);
        CHECK.due("the first alone", z.person(2, 10), 1);
        CHECK.due("whose it is bears it not for others", z.person(0, 10), 0);
        z.pass(1, 1);
        CHECK.due("a LENDER that wears it does not owe it", z.person(1, 10), 2);
        z.lay(1);
        CHECK.due("set down, nobody bears it", z.person(1, 10), 0);
    }

    private static void bowed() {
        CHECK.of("BOWED: LOAD is above BACK, or TIRED is 99, or it is HURT.");
        StoneBacks x = Check.told("person 7 back 9 at 3;person 7 back 9 at 3;person 7 back 9 at 3;"
                + "stone 9 of 0 to 1;stone 10 of 1 to 0;stone 8 of 2 to 0");
        CHECK.due("LOAD 9 of BACK 9", x.person(0, 11), 0);
        CHECK.due("LOAD 10 of BACK 9", x.person(1, 11), 1);
        CHECK.due("LOAD 8 of BACK 9", x.person(2, 11), 0);
        Check.law(x, "tire 98 if who<1;tire 99 if who>1");
        x.hours(1);
        CHECK.due("TIRED 98", x.person(0, 11), 0);
        CHECK.due("TIRED 99", x.person(2, 11), 1);
        StoneBacks y = Check.told(people(2));
        Check.law(y, "hurt 99 if who>0;hurt 1 if who>0");
        y.hours(1);
        CHECK.due("not HURT", y.person(0, 11), 0);
        CHECK.due("HURT", y.person(1, 11), 1);
        CHECK.due("HURT is 1", y.person(1, 5), 1);
        CHECK.due("not HURT is 0", y.person(0, 5), 0);
    }

    private static void whatOfPeople() {
        CHECK.of("NoSuchElementException: another what.");
        StoneBacks x = Check.told(people(6));
        for (int bad : new int[] {-1, 12, MIN, MAX}) {
            CHECK.noElement("person(0, " + bad + ")", () -> x.person(0, bad));
        }
        CHECK.due("the last what", x.person(5, 11), 0);
        CHECK.due("the first what", x.person(5, 0), 7);
        CHECK.of("IndexOutOfBoundsException: there is no such PERSON, STONE, PLACE.");
        for (int bad : new int[] {-1, 6, MIN, MAX}) {
            CHECK.noBounds("person(" + bad + ", 0)", () -> x.person(bad, 0));
            CHECK.noBounds("person(" + bad + ", 12)", () -> x.person(bad, 12));
        }
        StoneBacks y = Check.told(people(1));
        CHECK.due("PERSON 0 of one", y.person(0, 0), 7);
        CHECK.noBounds("PERSON 1 of one", () -> y.person(1, 0));
    }

    // ---- promise 8

    private static void does(int load, int back, int tires, int earns, int hurts) {
        StringBuilder text = new StringBuilder("person 7 back " + back + " at 3;person 7 back 9 at 3");
        for (int left = load; left > 0; left -= 40) {
            text.append(";stone ").append(Math.min(40, left)).append(" of 0 to 1");
        }
        StoneBacks x = Check.told(text.toString());
        CHECK.due("LOAD " + load + " TIRES", x.does(0, 0), tires);
        CHECK.due("LOAD " + load + " EARNS", x.does(0, 1), earns);
        CHECK.due("LOAD " + load + " of BACK " + back + " HURTS", x.does(0, 2), hurts);
    }

    private static void doesWithoutText() {
        CHECK.of("without a text: LOAD by 4, rounded down");
        does(0, 9, 0, 10, 0);
        does(3, 9, 0, 10, 0);
        does(4, 9, 1, 9, 0);
        CHECK.of("without a text: 10 less LOAD by 4, rounded down, 0 at least");
        does(39, 60, 9, 1, 0);
        does(40, 60, 10, 0, 0);
        does(43, 60, 10, 0, 0);
        does(44, 60, 11, 0, 0);
        CHECK.of("without a text: LOAD less BACK, 0 at least, also above 100");
        does(8, 9, 2, 8, 0);
        does(9, 9, 2, 8, 0);
        does(10, 9, 2, 8, 1);
        does(109, 9, 27, 0, 100);
        does(110, 9, 27, 0, 101);
        does(400, 1, 100, 0, 399);
    }

    private static void doesByText() {
        CHECK.of("TIRES by: the sum of N of all tire LINES that hold");
        StoneBacks x = Check.told(people(2));
        Check.law(x, "tire 99" + ";tire 99".repeat(11));
        CHECK.due("twelve of 99", x.does(0, 0), 1188);
        Check.law(x, "tire 1;tire 2 if light;tire 4 if not light;earn 8;hurt 16");
        CHECK.due("who holds", x.does(0, 0), 3);
        CHECK.of("EARNS by: the sum of N of all earn LINES");
        CHECK.due("earn", x.does(0, 1), 8);
        Check.law(x, "earn 99" + ";earn 99".repeat(11));
        CHECK.due("twelve of 99", x.does(1, 1), 1188);
        CHECK.due("no tire LINE", x.does(1, 0), 0);
        CHECK.due("no hurt LINE", x.does(1, 2), 0);
        CHECK.of("HURTS by: the sum of N of all hurt LINES, 100 at most");
        Check.law(x, "hurt 99");
        CHECK.due("99", x.does(0, 2), 99);
        Check.law(x, "hurt 99;hurt 1");
        CHECK.due("100", x.does(0, 2), 100);
        Check.law(x, "hurt 99;hurt 2");
        CHECK.due("101", x.does(0, 2), 100);
        Check.law(x, "hurt 99" + ";hurt 99".repeat(11));
        CHECK.due("1188", x.does(0, 2), 100);
    }

    private static StoneBacks lawful(String valley, String condition) {
        StoneBacks x = Check.told(valley);
        Check.law(x, "tire 1 if " + condition);
        return x;
    }

    private static void holds(String valley, String condition, int first, int second) {
        StoneBacks x = lawful(valley, condition);
        CHECK.due(condition + " of 0", x.does(0, 0), first);
        CHECK.due(condition + " of 1", x.does(1, 0), second);
    }

    private static void partsOfSums() {
        String two = "person 7 back 9 at 3 goal 3;person 7 back 10 at 4 goal 3;stone 1 of 0 to 1;slope 3 3;slope 4 2";
        CHECK.of("slope: SLOPE of its PLACE");
        holds(two, "slope>2", 1, 0);
        holds(two, "slope<3", 0, 1);
        CHECK.of("hour: HOUR modulo 24");
        holds(two + ";hour 23", "hour>22", 1, 1);
        holds(two + ";hour 24", "hour<1", 1, 1);
        holds(two + ";hour 0", "hour<1", 1, 1);
        holds(two + ";hour 999", "hour>14 and hour<16", 1, 1);
        CHECK.of("there: it is at its GOAL; light: LOAD is 0.");
        holds(two, "there", 1, 0);
        holds(two, "light", 0, 1);
        CHECK.of("SUM < SUM | SUM > SUM");
        holds(two, "who<1", 1, 0);
        holds(two, "who>0", 0, 1);
        holds(two, "who<0", 0, 0);
        holds(two, "load<1", 0, 1);
        holds(two, "load>0", 1, 0);
        holds(two, "back<10", 1, 0);
        holds(two, "back>9", 0, 1);
        holds(two, "place<4", 1, 0);
        holds(two, "place>3", 0, 1);
        holds(two, "tired<1", 1, 1);
        holds(two, "tired>0", 0, 0);
        holds(two, "999+999>999+998", 1, 1);
        holds(two, "999+999<999+999", 0, 0);
        holds(two, "999+999>999+999", 0, 0);
        holds(two, "who+load+back+place+slope+tired+hour<17", 1, 0);
        holds(two, "who+load+back+place+slope+tired+hour>16", 0, 1);
        CHECK.of("C: ALL { or ALL }; ALL: ATOM { and ATOM }");
        holds(two, "there or light and light", 1, 1);
        holds(two, "(there or light) and light", 0, 1);
        holds(two, "light and light or there", 1, 1);
        holds(two, "not there or there", 1, 1);
        holds(two, "not (there or there)", 0, 1);
        holds(two, "not there and there", 0, 0);
        holds(two, "not not there", 1, 0);
        holds(two, "not not not there", 0, 1);
        holds(two, "not not not not there", 1, 0);
        holds(two, "not(not there and light)or there and light", 1, 0);
    }

    private static void whatOneDoes() {
        CHECK.of("Of a PERSON what 0 it TIRES, 1 it EARNS, 2 it HURTS by now. NoSuchElementException: another what.");
        StoneBacks x = Check.told(people(6));
        Check.law(x, "tire 1;earn 2;hurt 3");
        for (int what = 0; what < 3; what++) {
            CHECK.due("does(5, " + what + ")", x.does(5, what), what + 1);
        }
        for (int bad : new int[] {-1, 3, MIN, MAX}) {
            CHECK.noElement("does(0, " + bad + ")", () -> x.does(0, bad));
        }
        for (int bad : new int[] {-1, 6, MIN, MAX}) {
            CHECK.noBounds("does(" + bad + ", 0)", () -> x.does(bad, 0));
            CHECK.noBounds("does(" + bad + ", 3)", () -> x.does(bad, 3));
        }
    }

    // ---- promise 9

    private static void stones() {
        CHECK.of("4 the BEARER (NONE, if it is not worn), 5 the PLACE where it is (its BEARER's; NONE, if it is paid).");
        StoneBacks x = Check.told("person 40 back 9 at 11;person 7 back 9 at 11;person 7 back 9 at 0" + stones(9, 2)
                + ";stone 40 of 0 to 1 worn by 2");
        CHECK.due("worn: STATE", x.stone(9, 3), 0);
        CHECK.due("worn: BEARER", x.stone(9, 4), 2);
        CHECK.due("worn: PLACE of its BEARER", x.stone(9, 5), 0);
        x.lay(0);
        CHECK.due("set down: STATE", x.stone(0, 3), 1);
        CHECK.due("set down: BEARER", x.stone(0, 4), -1);
        CHECK.due("set down: PLACE", x.stone(0, 5), 11);
        x.goal(0, 10);
        x.hours(1);
        CHECK.due("it stays where it lies", x.stone(0, 5), 11);
        x.pay(0);
        CHECK.due("paid: STATE", x.stone(0, 3), 2);
        CHECK.due("paid: BEARER", x.stone(0, 4), -1);
        CHECK.due("paid: PLACE", x.stone(0, 5), -1);
        CHECK.due("paid: DEBTOR", x.stone(0, 0), 0);
        CHECK.due("paid: LENDER", x.stone(0, 1), 1);
        CHECK.due("paid: WEIGHT", x.stone(0, 2), 2);
        CHECK.of("NoSuchElementException: another what.");
        for (int bad : new int[] {-1, 6, MIN, MAX}) {
            CHECK.noElement("stone(9, " + bad + ")", () -> x.stone(9, bad));
        }
        CHECK.of("IndexOutOfBoundsException: there is no such PERSON, STONE, PLACE.");
        for (int bad : new int[] {-1, 10, MIN, MAX}) {
            CHECK.noBounds("stone(" + bad + ", 0)", () -> x.stone(bad, 0));
            CHECK.noBounds("stone(" + bad + ", 6)", () -> x.stone(bad, 6));
        }
        StoneBacks y = Check.told(people(2) + stones(1, 2));
        CHECK.noBounds("STONE 1 of one", () -> y.stone(1, 0));
        y.undo();
        CHECK.due("STONE 0 of one", y.stone(0, 2), 2);
    }

    // ---- promise 10

    private static void places() {
        CHECK.of("PLACES 0 to 11 in a row");
        StoneBacks x = Check.told("person 40 back 9 at 0;person 7 back 9 at 11;person 7 back 9 at 11;"
                + "slope 0 1;slope 11 3;porch 0;porch 11;stone 2 of 0 to 1;stone 3 of 1 to 0;stone 4 of 2 to 0");
        x.lay(0);
        x.lay(1);
        x.lay(2);
        int[][] want = {{1, 1, 1, 1}, {3, 1, 6, 6}};
        for (int what = 0; what < 4; what++) {
            CHECK.due("place(0, " + what + ")", x.place(0, what), want[0][what]);
            CHECK.due("place(11, " + what + ")", x.place(11, what), want[1][what]);
            CHECK.due("place(5, " + what + ")", x.place(5, what), 0);
        }
        x.lift(1, 2);
        CHECK.due("one lifted", x.place(11, 3), 4);
        CHECK.of("IndexOutOfBoundsException: there is no such PERSON, STONE, PLACE.");
        for (int bad : new int[] {-1, 12, MIN, MAX}) {
            CHECK.noBounds("place(" + bad + ", 0)", () -> x.place(bad, 0));
            CHECK.noBounds("place(" + bad + ", 4)", () -> x.place(bad, 4));
        }
        CHECK.of("3 STONES set down there, as bits. NoSuchElementException: another what.");
        for (int bad : new int[] {-1, 4, MIN, MAX}) {
            CHECK.noElement("place(11, " + bad + ")", () -> x.place(11, bad));
        }
        CHECK.due("six there", Check.told(people(6)).place(3, 2), 63);
    }

    // ---- promise 47

    private static void counts() {
        CHECK.of("13 acts that can be UNDONE. NONE for another what.");
        StoneBacks x = Check.told(people(6) + ";stone 40 of 0 to 1".repeat(8));
        for (int bad : new int[] {-1, 14, MIN, MAX}) {
            CHECK.due("count(" + bad + ")", x.count(bad), -1);
        }
        Check.valley(x, "stone 40 of 0 to 1;stone 40 of 0 to 1");
        CHECK.due("PEOPLE", x.count(0), 6);
        CHECK.due("STONES", x.count(1), 10);
        CHECK.due("PURSES", x.count(6), 42);
        CHECK.due("worn", x.count(7), 1023);
        CHECK.due("set down", x.count(8), 0);
        CHECK.due("paid", x.count(9), 0);
        CHECK.due("WEIGHTS", x.count(10), 400);
        CHECK.due("HURT", x.count(11), 0);
        x.lay(9);
        CHECK.due("worn", x.count(7), 511);
        CHECK.due("set down", x.count(8), 512);
        CHECK.due("WEIGHTS, also of one set down", x.count(10), 400);
        StoneBacks y = Check.told("person 999 back 9 at 3" + ";person 999 back 9 at 3".repeat(5) + stones(2, 40));
        y.pay(1);
        CHECK.due("paid", y.count(9), 2);
        CHECK.due("WEIGHTS not paid", y.count(10), 40);
        Check.law(y, "earn 99;earn 99;hurt 99;hurt 1");
        y.hours(100);
        CHECK.due("all are HURT", y.count(11), 63);
        CHECK.due("six of 9999", y.count(6), 59994);
        CHECK.of("3 LINES of THE LAW (NONE without one)");
        CHECK.due("four", y.count(3), 4);
        CHECK.due("without one", x.count(3), -1);
        x.law();
        CHECK.due("an empty one", x.count(3), 0);
    }
}
