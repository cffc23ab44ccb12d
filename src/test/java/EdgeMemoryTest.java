import java.util.function.Consumer;

/** The edges of promises 41, 42 and 44 to 46, sentence by sentence: THE LOG, what is UNDONE, THE IMAGE. */
public final class EdgeMemoryTest {
    private static final Check CHECK = new Check();
    private static final int MIN = Integer.MIN_VALUE;
    private static final int MAX = Integer.MAX_VALUE;

    public static void main(String[] args) {
        rows();
        sixtyRows();
        log();
        led();
        eachActUndone();
        twelveRemembered();
        roundAndRound();
        whatUndoLeaves();
        textsAndGoingBack();
        image();
        imageOfEmpty();
        whatGoingBackLeaves();
        CHECK.end();
    }

    private static StoneBacks some() {
        StoneBacks x = Check.told("person 50 back 60 at 4;person 50 back 60 at 4;person 9 back 9 at 6 goal 8;porch 4;"
                + "stone 7 of 0 to 1;stone 6 of 1 to 2;stone 5 of 0 to 2;hour 22");
        Check.law(x, "tire 3;earn 2;hurt 30");
        x.lay(2);
        return x;
    }

    private static void row(StoneBacks x, int ago, int... want) {
        for (int what = 0; what < 4; what++) {
            CHECK.due("log(" + ago + ", " + what + ")", x.log(ago, what), want[what]);
        }
    }

    // ---- THE LOG

    private static void rows() {
        CHECK.of("HOUR, the STONE, 0 lent, 1 paid, 2 broken, 3 passed, 4 set down, 5 lifted; WEIGHT (as it was ahead of it; of a "
                + "lent one its own).");
        StoneBacks x = Check.told("person 50 back 60 at 4;person 50 back 60 at 4;porch 4;hour 22");
        Check.law(x, "");
        x.lend(0, 1, 7);
        row(x, 0, 22, 0, 0, 7);
        x.hours(2);
        x.split(0);
        row(x, 0, 24, 0, 2, 8);
        CHECK.due("one row of a broken one", x.count(12), 2);
        x.pass(1, 0);
        row(x, 0, 24, 1, 3, 4);
        x.hours(23);
        x.lay(1);
        row(x, 0, 47, 1, 4, 4);
        x.hours(1);
        x.lift(1, 1);
        row(x, 0, 48, 1, 5, 5);
        x.pay(1);
        row(x, 0, 48, 1, 1, 5);
        row(x, 5, 22, 0, 0, 7);
        x.goal(0, 1);
        x.rest(0);
        CHECK.due("a GOAL and a rest have no rows", x.count(12), 6);
    }

    private static void sixtyRows() {
        CHECK.of("THE LOG: the latest 60 acts with STONES");
        StoneBacks x = Check.told("person 50 back 60 at 4;person 50 back 60 at 4");
        Check.law(x, "");
        CHECK.due("none at first", x.count(12), 0);
        for (int n = 1; n <= 9; n++) {
            x.lend(0, 1, n % 5 + 1);
            CHECK.due("rows", x.count(12), n);
        }
        for (int n = 10; n <= 60; n++) {
            x.pass(8, (n + 1) % 2 == 1 ? 0 : 1);
            CHECK.due("rows", x.count(12), n);
        }
        row(x, 59, 0, 0, 0, 2);
        CHECK.due("61st: none", x.log(60, 1), -1);
        x.hours(1);
        x.pay(8);
        CHECK.due("60 at most", x.count(12), 60);
        row(x, 0, 1, 8, 1, 5);
        row(x, 59, 0, 1, 0, 3);
        CHECK.due("the first is gone", x.led(0, false), 0);
        CHECK.due("the first is gone", x.led(0, true), -1);
        x.pay(7);
        x.pay(6);
        row(x, 59, 0, 3, 0, 5);
        row(x, 2, 1, 8, 1, 5);
        CHECK.due("60 at most", x.count(12), 60);
        x.undo();
        row(x, 59, 0, 2, 0, 4);
        row(x, 0, 1, 7, 1, 4);
    }

    private static void log() {
        CHECK.of("THE LOG so many ago (0 the latest) what 0 the HOUR, 1 the STONE, 2 what it was, 3 WEIGHT; NONE without.");
        StoneBacks empty = new StoneBacks();
        for (int what = 0; what < 4; what++) {
            CHECK.due("of none", empty.log(0, what), -1);
        }
        StoneBacks x = some();
        row(x, 0, 22, 2, 4, 5);
        for (int bad : new int[] {-1, 1, 60, MIN, MAX}) {
            CHECK.due("log(" + bad + ", 0)", x.log(bad, 0), -1);
            CHECK.due("log(" + bad + ", 3)", x.log(bad, 3), -1);
        }
        CHECK.of("NONE without. NoSuchElementException: another what.");
        for (int bad : new int[] {-1, 4, MIN, MAX}) {
            CHECK.noElement("log(0, " + bad + ")", () -> x.log(0, bad));
            CHECK.noElement("log(1, " + bad + ")", () -> x.log(1, bad));
            CHECK.noElement("log(-1, " + bad + ")", () -> x.log(-1, bad));
        }
    }

    private static void led() {
        CHECK.of("LED: how many rows of THE LOG are of a STONE; the HOUR of the latest (none).");
        StoneBacks x = some();
        CHECK.due("a told one: rows", x.led(0, false), 0);
        CHECK.due("a told one: HOUR", x.led(0, true), -1);
        CHECK.due("one set down: rows", x.led(2, false), 1);
        CHECK.due("one set down: HOUR", x.led(2, true), 22);
        x.hours(1);
        int made = x.split(2);
        CHECK.due("the broken one: rows", x.led(2, false), 2);
        CHECK.due("the broken one: HOUR of the latest", x.led(2, true), 23);
        CHECK.due("the new one: rows", x.led(made, false), 0);
        CHECK.due("the new one: HOUR", x.led(made, true), -1);
        StoneBacks zero = Check.told("person 9 back 9 at 0;person 9 back 9 at 0");
        zero.lend(0, 1, 1);
        CHECK.due("HOUR 0", zero.led(0, true), 0);
        CHECK.of("IndexOutOfBoundsException: there is no such PERSON, STONE, PLACE.");
        for (int bad : new int[] {-1, 4, 10, MIN, MAX}) {
            CHECK.noBounds("led(" + bad + ", false)", () -> x.led(bad, false));
            CHECK.noBounds("led(" + bad + ", true)", () -> x.led(bad, true));
        }
    }

    // ---- UNDONE

    private static void undone(String what, Consumer<StoneBacks> act) {
        StoneBacks x = some();
        act.accept(x);
        CHECK.due(what + " is remembered", x.count(13), 2);
        CHECK.due(what + " is undone", x.undo(), true);
        CHECK.due("all behind " + what, Sight.ofAll(x), Sight.ofAll(some()));
    }

    private static void eachActUndone() {
        CHECK.of("UNDONE: the latest ACT not undone yet (12 are remembered; HOURS of one call are one): all is as ahead of it");
        undone("lend", x -> x.lend(0, 1, 40));
        undone("pay", x -> x.pay(0));
        undone("pay of one set down", x -> x.pay(2));
        undone("split", x -> x.split(0));
        undone("split of one set down", x -> x.split(2));
        undone("pass", x -> x.pass(0, 1));
        undone("lay", x -> x.lay(0));
        undone("lift", x -> x.lift(2, 1));
        undone("goal", x -> x.goal(2, 0));
        undone("goal like before", x -> x.goal(2, 8));
        undone("rest", x -> x.rest(2));
        undone("hours(1)", x -> x.hours(1));
        undone("hours(100)", x -> x.hours(100));
        // a rest of one that is TIRED and HURT
        StoneBacks x = some();
        Check.law(x, "tire 9;hurt 99;hurt 1");
        x.hours(1);
        String due = Sight.ofNow(x).replace(" 1 seed", " seed");
        x.rest(0);
        x.undo();
        CHECK.due("all behind a rest", Sight.ofNow(x).replace(" 1 seed", " seed"), due);
    }

    private static void twelveRemembered() {
        CHECK.of("an ACT that went as the thirteenth came is remembered no more");
        StoneBacks none = new StoneBacks();
        CHECK.due("none", none.undo(), false);
        CHECK.due("none", none.count(13), 0);
        for (int acts : new int[] {1, 11, 12, 13, 14, 25}) {
            StoneBacks x = Check.told("person 50 back 60 at 4");
            for (int n = 1; n <= acts; n++) {
                x.goal(0, n % 12);
            }
            int kept = Math.min(12, acts);
            CHECK.due("of " + acts, x.count(13), kept);
            for (int n = 1; n <= kept; n++) {
                CHECK.due("undo " + n + " of " + acts, x.undo(), true);
                CHECK.due("left of " + acts, x.count(13), kept - n);
                int before = acts - n;
                CHECK.due("GOAL " + n + " of " + acts, x.person(0, 3), before == 0 ? 4 : before % 12);
            }
            CHECK.due("no more of " + acts, x.undo(), false);
            CHECK.due("GOAL of " + acts + " stays", x.person(0, 3), acts <= 12 ? 4 : (acts - 12) % 12);
        }
    }

    private static void roundAndRound() {
        CHECK.of("UNDONE: the latest ACT not undone yet (12 are remembered; HOURS of one call are one)");
        StoneBacks x = Check.told("person 50 back 60 at 4");
        for (int n = 0; n < 30; n++) {
            x.goal(0, n % 12);
            x.goal(0, 11);
            CHECK.due("undo", x.undo(), true);
            CHECK.due("GOAL", x.person(0, 3), n % 12);
        }
        CHECK.due("the one undone had pushed one out", x.count(13), 11);
        for (int n = 28; n > 17; n--) {
            x.undo();
            CHECK.due("GOAL of " + n, x.person(0, 3), n % 12);
        }
        CHECK.due("no more", x.undo(), false);
        x.hours(100);
        x.hours(100);
        CHECK.due("HOURS of one call are one", x.count(13), 2);
        x.undo();
        CHECK.due("HOUR 100", x.count(4), 100);
        x.undo();
        CHECK.due("HOUR 0", x.count(4), 0);
    }

    private static void whatUndoLeaves() {
        CHECK.of("(but for the TAPE, fault(), THE IMAGE;");
        StoneBacks x = some();
        x.rest(0);
        CHECK.noArgument("a wrong text", () -> Check.valley(x, "hour x"));
        x.image();
        Check.tape(x, "limit 9");
        x.undo();
        CHECK.due("fault()", x.fault(), 5);
        CHECK.due("the TAPE", Sight.tapeLength(x), 7);
        x.undo();
        CHECK.due("STONE 2 is worn", x.stone(2, 3), 0);
        CHECK.due("THE IMAGE", x.back(), true);
        CHECK.due("STONE 2 lies in it", x.stone(2, 3), 1);
        x.valley();
        CHECK.due("the TAPE's text", x.count(5), 9);
        // SEED is as ahead of it, too
        StoneBacks y = some();
        y.seed(5);
        y.hours(3);
        y.seed(9);
        y.undo();
        CHECK.due("SEED", y.seed(1), 5);
        StoneBacks z = some();
        z.undo();
        CHECK.due("SEED as ahead of it", z.seed(8), 1);
        CHECK.due("nothing is left", z.undo(), false);
        CHECK.due("false changes nothing", z.seed(1), 8);
    }

    private static void textsAndGoingBack() {
        CHECK.of("A text, going back: none are remembered.");
        StoneBacks x = some();
        CHECK.noArgument("a wrong text", () -> Check.valley(x, "hour x"));
        CHECK.due("of a wrong text all are", x.count(13), 1);
        CHECK.noArgument("a wrong law", () -> Check.law(x, "x"));
        CHECK.due("of a wrong law all are", x.count(13), 1);
        CHECK.due("no image", x.back(), false);
        CHECK.due("without an image all are", x.count(13), 1);
        x.image();
        CHECK.due("of an image all are", x.count(13), 1);
        x.valley();
        CHECK.due("an empty text", x.count(13), 0);
        CHECK.due("no undo", x.undo(), false);
        x.rest(0);
        x.law();
        CHECK.due("an empty law", x.count(13), 0);
        CHECK.due("no undo", x.undo(), false);
        x.rest(0);
        x.back();
        CHECK.due("going back", x.count(13), 0);
        CHECK.due("no undo", x.undo(), false);
        StoneBacks full = new StoneBacks();
        for (int n = 0; n < 12; n++) {
            full.valley();
        }
        full.hours(1);
        CHECK.fails("a 13th text", UnsupportedOperationException.class, () -> full.valley());
        CHECK.due("of a refused text all are", full.count(13), 1);
        Check.rows(x, 0, 1, 1);
        x.rest(0);
        x.weigh();
        CHECK.due("rows for the scales are no text", x.count(13), 1);
    }

    // ---- THE IMAGE

    private static void image() {
        CHECK.of("One goes back to THE IMAGE: true; false, and nothing happens, if none was kept.");
        StoneBacks none = some();
        CHECK.due("none was kept", none.back(), false);
        CHECK.due("nothing happens", Sight.ofAll(none), Sight.ofAll(some()));
        StoneBacks x = some();
        x.image();
        String due = Sight.ofNow(x);
        x.hours(30);
        x.lend(0, 1, 9);
        x.seed(-5);
        Check.valley(x, "person 1 back 1 at 1;slope 1 1;porch 9;limit 9;hour 5;stone 9 of 3 to 0");
        Check.law(x, "tire 9");
        x.pay(0);
        CHECK.due("back", x.back(), true);
        String got = Sight.ofNow(x);
        CHECK.due("all but what is remembered", got.replace(" 0 seed", " 1 seed"), due);
        CHECK.due("back again", x.back(), true);
        CHECK.due("all again", Sight.ofNow(x), got);
        lawOfImage();
        CHECK.of("THE IMAGE (one) of all may be kept, and gone back to");
        x.pay(0);
        x.image();
        x.pay(1);
        x.back();
        CHECK.due("the later one: STONE 0 is paid", x.stone(0, 3), 2);
        CHECK.due("the later one: STONE 1 is not", x.stone(1, 3), 0);
        x.lend(0, 1, 1);
        x.undo();
        CHECK.due("kept through acts and undo", x.back(), true);
        x.hours(100);
        x.back();
        CHECK.due("HOUR", x.count(4), 22);
    }

    private static void lawOfImage() {
        StoneBacks x = some();
        Check.law(x, "tire 7;tire 9 if who<1;earn 5 if not light and who<2;hurt 6 if load>6+0 or there;hurt 1 if light");
        String due = Sight.ofNow(x);
        x.image();
        Check.law(x, "tire 1 if 1<0+0;earn 1 if who>0 and (there or light);hurt 3 if not there;hurt 4 if who>1 or light");
        x.back();
        CHECK.due("THE LAW, LINE by LINE", Sight.ofNow(x), due);
        Check.law(x, "hurt 2 if place>0+0+0+0+0+0");
        Check.law(x, "earn 2 if place>0+0+0+0+0+0 and not there");
        x.back();
        CHECK.due("THE LAW again", Sight.ofNow(x), due);
    }

    private static void imageOfEmpty() {
        CHECK.of("THE IMAGE is kept.");
        StoneBacks x = new StoneBacks();
        x.image();
        for (int n = 0; n < 12; n++) {
            Check.valley(x, "hour " + n);
        }
        Check.law(x, "tire 1");
        CHECK.due("back", x.back(), true);
        CHECK.due("all of a new one", Sight.ofNow(x), Sight.ofNow(new StoneBacks()));
        CHECK.due("a text can be told again", x.valley(), 1);
        CHECK.due("no law", x.count(3), -1);
    }

    private static void whatGoingBackLeaves() {
        CHECK.of("(but for the TAPE, fault() and THE IMAGE itself)");
        StoneBacks x = some();
        CHECK.noArgument("wrong", () -> Check.valley(x, "hour x"));
        x.image();
        CHECK.noArgument("wrong", () -> Check.valley(x, "x"));
        Check.tape(x, "limit 7");
        CHECK.due("back", x.back(), true);
        CHECK.due("fault()", x.fault(), 0);
        CHECK.due("the TAPE", Sight.tapeLength(x), 7);
        x.valley();
        CHECK.due("its text", x.count(5), 7);
        CHECK.due("THE IMAGE", x.back(), true);
        CHECK.due("is as it was", x.count(5), 40);
    }
}
