import java.util.NoSuchElementException;

/** The document's last lines ahead of the promises: which exception is thrown, and what a call that throws changes. */
public final class RefusedTest {
    private static final Check CHECK = new Check();
    private static final int MIN = Integer.MIN_VALUE;
    private static final int MAX = Integer.MAX_VALUE;
    private static final Class<IndexOutOfBoundsException> BOUNDS = IndexOutOfBoundsException.class;
    private static final Class<IllegalArgumentException> ARGUMENT = IllegalArgumentException.class;
    private static final Class<IllegalStateException> STATE = IllegalStateException.class;
    private static final Class<NoSuchElementException> ELEMENT = NoSuchElementException.class;

    /** A call on an object that is made anew for it. */
    private interface Asked {
        long of(StoneBacks x);
    }

    public static void main(String[] args) {
        looksRefused();
        actsRefused();
        questionsRefused();
        ofSeveral();
        textsRefused();
        rowsRefused();
        refusedWithoutThrowing();
        questionsChangeNothing();
        CHECK.end();
    }

    /** PEOPLE 0 to 2; STONES: 0 worn, 1 of weight 1, 2 set down, 3 paid; acts, an image, a fault and a text on the TAPE. */
    private static StoneBacks some() {
        StoneBacks x = Check.told("person 30 back 20 at 4;person 5 back 60 at 4;person 0 back 9 at 6 goal 8;porch 4;slope 5 2;"
                + "stone 7 of 0 to 1;stone 1 of 1 to 2;stone 5 of 0 to 2;stone 6 of 0 to 1;stone 9 of 2 to 0;hour 22;limit 30");
        Check.law(x, "tire 3 if not light;earn 2;hurt 30");
        x.seed(77);
        x.lay(2);
        x.image();
        x.pay(3);
        x.hours(1);
        try {
            Check.valley(x, "hour x");
        } catch (IllegalArgumentException e) {
            CHECK.due("its fault", x.fault(), 5);
        }
        Check.tape(x, "limit 12");
        return x;
    }

    private static void refused(String call, Class<? extends RuntimeException> want, Asked asked) {
        StoneBacks x = some();
        CHECK.fails(call, want, () -> asked.of(x));
        CHECK.due("all behind " + call, Sight.ofAll(x), Sight.ofAll(some()));
    }

    private static void looksRefused() {
        CHECK.of("a call that throws changes nothing but the TAPE, where it is used up, and fault(), where a text is read");
        for (int bad : new int[] {-1, 3, MIN, MAX}) {
            refused("person(" + bad + ", 0)", BOUNDS, x -> x.person(bad, 0));
            refused("does(" + bad + ", 0)", BOUNDS, x -> x.does(bad, 0));
        }
        for (int bad : new int[] {-1, 5, MIN, MAX}) {
            refused("stone(" + bad + ", 0)", BOUNDS, x -> x.stone(bad, 0));
            refused("led(" + bad + ", true)", BOUNDS, x -> x.led(bad, true));
        }
        for (int bad : new int[] {-1, 12, MIN, MAX}) {
            refused("place(" + bad + ", 0)", BOUNDS, x -> x.place(bad, 0));
            refused("person(0, " + bad + ")", ELEMENT, x -> x.person(0, bad));
            refused("does(0, " + bad + ")", ELEMENT, x -> x.does(0, bad));
            refused("stone(0, " + bad + ")", ELEMENT, x -> x.stone(0, bad));
            refused("place(0, " + bad + ")", ELEMENT, x -> x.place(0, bad));
            refused("log(0, " + bad + ")", ELEMENT, x -> x.log(0, bad));
        }
    }

    private static void actsRefused() {
        CHECK.of("IllegalStateException: it cannot be.");
        refused("lend(2, 0, 1)", STATE, x -> x.lend(2, 0, 1));
        refused("lend(1, 0, 40)", STATE, x -> x.lend(1, 0, 40));
        refused("pay(4): too little", STATE, x -> x.pay(4));
        refused("pay(3): it is paid", STATE, x -> x.pay(3));
        refused("split(1): WEIGHT is 1", STATE, x -> x.split(1));
        refused("split(3): it is paid", STATE, x -> x.split(3));
        refused("pass(0, 2): not there", STATE, x -> x.pass(0, 2));
        refused("pass(2, 0): set down", STATE, x -> x.pass(2, 0));
        refused("pass(3, 0): paid", STATE, x -> x.pass(3, 0));
        refused("lay(4): not there", STATE, x -> x.lay(4));
        refused("lay(2): set down", STATE, x -> x.lay(2));
        refused("lay(3): paid", STATE, x -> x.lay(3));
        refused("lift(0, 0): worn", STATE, x -> x.lift(0, 0));
        refused("lift(2, 2): not there", STATE, x -> x.lift(2, 2));
        refused("lift(3, 0): paid", STATE, x -> x.lift(3, 0));
        CHECK.of("IllegalArgumentException: a number is none, or two are one.");
        refused("lend(0, 1, 0)", ARGUMENT, x -> x.lend(0, 1, 0));
        refused("lend(0, 1, 41)", ARGUMENT, x -> x.lend(0, 1, 41));
        refused("lend(0, 0, 1)", ARGUMENT, x -> x.lend(0, 0, 1));
        refused("pass(0, 0)", ARGUMENT, x -> x.pass(0, 0));
        refused("hours(0)", ARGUMENT, x -> x.hours(0));
        refused("hours(101)", ARGUMENT, x -> x.hours(101));
        CHECK.of("IndexOutOfBoundsException: there is no such PERSON, STONE, PLACE.");
        for (int bad : new int[] {-1, 12}) {
            refused("lend(" + bad + ", 0, 1)", BOUNDS, x -> x.lend(bad, 0, 1));
            refused("lend(0, " + bad + ", 1)", BOUNDS, x -> x.lend(0, bad, 1));
            refused("pay(" + bad + ")", BOUNDS, x -> x.pay(bad));
            refused("split(" + bad + ")", BOUNDS, x -> x.split(bad));
            refused("pass(" + bad + ", 0)", BOUNDS, x -> x.pass(bad, 0));
            refused("pass(0, " + bad + ")", BOUNDS, x -> x.pass(0, bad));
            refused("lay(" + bad + ")", BOUNDS, x -> x.lay(bad));
            refused("lift(" + bad + ", 0)", BOUNDS, x -> x.lift(bad, 0));
            refused("lift(2, " + bad + ")", BOUNDS, x -> x.lift(2, bad));
            refused("goal(" + bad + ", 0)", BOUNDS, x -> x.goal(bad, 0));
            refused("goal(0, " + bad + ")", BOUNDS, x -> x.goal(0, bad));
            refused("rest(" + bad + ")", BOUNDS, x -> x.rest(bad));
        }
    }

    private static void questionsRefused() {
        CHECK.of("a call that throws changes nothing but the TAPE, where it is used up, and fault(), where a text is read");
        for (int bad : new int[] {-1, 12}) {
            refused("way(" + bad + ", 0)", BOUNDS, x -> x.way(bad, 0));
            refused("way(0, " + bad + ")", BOUNDS, x -> x.way(0, bad));
            refused("soonest(" + bad + ")", BOUNDS, x -> x.soonest(bad));
            refused("cross(" + bad + ")", BOUNDS, x -> x.cross(bad) ? 1 : 0);
            refused("shed(" + bad + ")", BOUNDS, x -> x.shed(bad));
            refused("share(" + bad + ", -1)", BOUNDS, x -> x.share(bad, -1));
            refused("pays(" + bad + ", true)", BOUNDS, x -> x.pays(bad, true));
            refused("first(" + bad + ")", BOUNDS, x -> x.first(bad));
            refused("owes(" + bad + ", 0)", BOUNDS, x -> x.owes(bad, 0) ? 1 : 0);
            refused("owes(0, " + bad + ")", BOUNDS, x -> x.owes(0, bad) ? 1 : 0);
            refused("rests(" + bad + ", 0, 1)", BOUNDS, x -> x.rests(bad, 0, 1));
            refused("rests(0, " + bad + ", 1)", BOUNDS, x -> x.rests(0, bad, 1));
            refused("ahead(" + bad + ", 0, 0)", BOUNDS, x -> x.ahead(bad, 0, 0));
            refused("ahead(0, 0, " + bad + ")", ELEMENT, x -> x.ahead(0, 0, bad));
        }
        refused("owes(1, 1)", ARGUMENT, x -> x.owes(1, 1) ? 1 : 0);
        refused("rests(1, 1, 1)", ARGUMENT, x -> x.rests(1, 1, 1));
        refused("rests(0, 1, 0)", ARGUMENT, x -> x.rests(0, 1, 0));
        refused("rests(0, 1, 41)", ARGUMENT, x -> x.rests(0, 1, 41));
        for (int bad : new int[] {-1, 201}) {
            refused("gravel(" + bad + ")", ARGUMENT, x -> x.gravel(bad));
            refused("ahead(0, " + bad + ", 0)", ARGUMENT, x -> x.ahead(0, bad, 0));
            refused("trial(" + bad + ", true)", ARGUMENT, x -> x.trial(bad, true));
            refused("span(" + bad + ", true)", ARGUMENT, x -> x.span(bad, true));
        }
        refused("trial(101, false)", ARGUMENT, x -> x.trial(101, false));
        refused("span(101, false)", ARGUMENT, x -> x.span(101, false));
    }

    private static void ofSeveral() {
        CHECK.of("Of several exceptions the one told first is thrown");
        refused("person(3, 12)", BOUNDS, x -> x.person(3, 12));
        refused("does(3, 3)", BOUNDS, x -> x.does(3, 3));
        refused("stone(5, 6)", BOUNDS, x -> x.stone(5, 6));
        refused("place(12, 4)", BOUNDS, x -> x.place(12, 4));
        refused("lend(3, 3, 0)", BOUNDS, x -> x.lend(3, 3, 0));
        refused("lend(2, 3, 0)", BOUNDS, x -> x.lend(2, 3, 0));
        refused("lend(2, 2, 1): one, and its PURSE is less", ARGUMENT, x -> x.lend(2, 2, 1));
        refused("lend(2, 0, 41): no WEIGHT, and the PURSE is less", ARGUMENT, x -> x.lend(2, 0, 41));
        refused("pass(3, 3): paid, to nobody", BOUNDS, x -> x.pass(3, 3));
        refused("pass(5, 0)", BOUNDS, x -> x.pass(5, 0));
        refused("lift(0, 3): worn, by nobody", BOUNDS, x -> x.lift(0, 3));
        refused("owes(3, 3)", BOUNDS, x -> x.owes(3, 3) ? 1 : 0);
        refused("rests(3, 3, 0)", BOUNDS, x -> x.rests(3, 3, 0));
        refused("rests(0, 3, 0)", BOUNDS, x -> x.rests(0, 3, 0));
        refused("ahead(3, 201, 4)", BOUNDS, x -> x.ahead(3, 201, 4));
        refused("ahead(0, 201, 4)", ARGUMENT, x -> x.ahead(0, 201, 4));
        refused("ahead(0, 200, 4)", ELEMENT, x -> x.ahead(0, 200, 4));
        StoneBacks full = new StoneBacks();
        for (int n = 0; n < 12; n++) {
            full.valley();
        }
        CHECK.noArgument("a wrong 13th text", () -> Check.valley(full, "x"));
        CHECK.fails("a right 13th text", UnsupportedOperationException.class, () -> Check.valley(full, "hour 1"));
    }

    /** The same object, but for its TAPE, which is empty, and its fault. */
    private static String usedUp(int fault) {
        StoneBacks x = some();
        x.end(0);
        return Sight.ofAll(x).replace(" fault 5 ", " fault " + fault + " ");
    }

    private static void textsRefused() {
        CHECK.of("and fault(), where a text is read (also by one that is refused).");
        String[] valleys = {"hour 1;x", "person 1 back 1 at 1;stone 1 of 3 to 3"};
        int[] faults = {7, 37};
        for (int i = 0; i < valleys.length; i++) {
            StoneBacks x = some();
            String text = valleys[i];
            x.end(0);
            CHECK.noArgument(text, () -> Check.valley(x, text));
            CHECK.due("all behind " + text, Sight.ofAll(x), usedUp(faults[i]));
        }
        StoneBacks y = some();
        y.end(0);
        CHECK.noArgument("a law", () -> Check.law(y, "tire 1;hurt 100"));
        CHECK.due("all behind a law", Sight.ofAll(y), usedUp(12));
        String due = Sight.ofNow(full());
        StoneBacks z = full();
        CHECK.fails("a 13th", UnsupportedOperationException.class, () -> Check.valley(z, "person 1 back 1 at 1;hour 9"));
        CHECK.due("all behind a 13th", Sight.ofNow(z), due);
        CHECK.due("its fault", z.fault(), -1);
        CHECK.due("the TAPE", Sight.tapeLength(z), 0);
        CHECK.due("the act is remembered", z.undo(), true);
    }

    private static StoneBacks full() {
        StoneBacks x = new StoneBacks();
        for (int n = 0; n < 12; n++) {
            x.valley();
        }
        x.hours(3);
        CHECK.noArgument("a wrong one", () -> Check.law(x, "tire 100"));
        return x;
    }

    private static void rowsRefused() {
        CHECK.of("a call that throws changes nothing but the TAPE, where it is used up, and fault(), where a text is read");
        refusedRows(x -> x.scales(false));
        refusedRows(x -> x.scales(true));
        refusedRows(x -> x.weigh());
    }

    private static void refusedRows(Asked asked) {
        StoneBacks x = some();
        CHECK.noArgument("the text on the TAPE is no rows", () -> asked.of(x));
        CHECK.due("all but the TAPE", Sight.ofAll(x), usedUp(5));
    }

    private static void unchanged(String call, Asked asked, long want) {
        StoneBacks x = some();
        CHECK.due(call, asked.of(x), want);
        CHECK.due("all behind " + call, Sight.ofAll(x), Sight.ofAll(some()));
    }

    private static void refusedWithoutThrowing() {
        CHECK.of("false, and nothing happens, if it has fewer, or n is below 0.");
        unchanged("end(9)", x -> x.end(9) ? 1 : 0, 0);
        unchanged("end(-1)", x -> x.end(-1) ? 1 : 0, 0);
        unchanged("end(8)", x -> x.end(8) ? 1 : 0, 1);
        CHECK.of("NONE for another what.");
        unchanged("count(14)", x -> x.count(14), -1);
        unchanged("count(-1)", x -> x.count(-1), -1);
        unchanged("log(99, 0)", x -> x.log(99, 0), -1);
        unchanged("share(0, -1)", x -> x.share(0, -1), -1);
        CHECK.of("NONE, and none come, if it would have more than 400.");
        StoneBacks full = some();
        StoneBacks like = some();
        for (int n = 0; n < 19; n++) {
            full.feed(0x20202020, 0x20202020, 0x20202020, 0x20202020, 0x20202020);
            like.feed(0x20202020, 0x20202020, 0x20202020, 0x20202020, 0x20202020);
        }
        CHECK.due("388 and 20", full.feed(1, 2, 3, 4, 5), -1);
        CHECK.due("all", Sight.ofAll(full), Sight.ofAll(like));
    }

    private static void questionsChangeNothing() {
        CHECK.of("Nothing is promised beyond the answers and state changes described above");
        StoneBacks x = some();
        for (int p = 0; p < 3; p++) {
            for (int place = 0; place < 12; place++) {
                x.way(p, place);
            }
            x.cross(p);
            x.shed(p);
            x.pays(p, true);
            x.pays(p, false);
            x.first(p);
            x.owes(p, (p + 1) % 3);
            x.rests(p, (p + 1) % 3, 7);
            x.ahead(p, 200, 0);
        }
        CHECK.due("all behind questions of PEOPLE", Sight.ofAll(x), Sight.ofAll(some()));
        StoneBacks y = some();
        for (int place = 0; place < 12; place++) {
            y.soonest(place);
            y.share(place, -1);
            y.share(place, 0);
        }
        y.goes();
        y.meet();
        y.last(true);
        y.last(false);
        y.heap();
        y.pairs();
        y.heaviest();
        y.gravel(200);
        y.trial(100, true);
        y.trial(100, false);
        y.span(100, true);
        y.fault();
        CHECK.due("all behind questions of all", Sight.ofAll(y), Sight.ofAll(some()));
        StoneBacks z = some();
        z.end(0);
        Check.rows(z, 0, 1, 0);
        z.scales(true);
        Check.rows(z, 0, 1, 0);
        z.weigh();
        CHECK.due("all behind the scales, but the TAPE", Sight.ofAll(z), usedUp(5));
    }
}
