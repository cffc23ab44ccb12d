/** Promises 41, 42 and 44 to 46: THE LOG, acts undone, THE IMAGE. */
public final class MemoryTest {
    private static final Check CHECK = new Check();

    public static void main(String[] args) {
        rows();
        manyRows();
        undone();
        undoneTwelve();
        undoneLog();
        undoneSeed();
        image();
        imageOfAll();
        CHECK.end();
    }

    private static StoneBacks two() {
        return Check.told("person 50 back 60 at 4;person 50 back 60 at 4;porch 4");
    }

    private static void row(StoneBacks x, int ago, int hour, int stone, int act, int weight) {
        CHECK.due("HOUR " + ago + " ago", x.log(ago, 0), hour);
        CHECK.due("STONE " + ago + " ago", x.log(ago, 1), stone);
        CHECK.due("what " + ago + " ago", x.log(ago, 2), act);
        CHECK.due("WEIGHT " + ago + " ago", x.log(ago, 3), weight);
    }

    private static void rows() {
        StoneBacks x = two();
        CHECK.due("without", x.log(0, 0), -1);
        x.lend(0, 1, 9);
        x.hours(1);
        x.split(0);
        x.pass(0, 0);
        x.hours(1);
        x.lay(1);
        x.lift(1, 0);
        x.goal(0, 5);
        x.rest(0);
        x.pay(0);
        row(x, 5, 0, 0, 0, 9);
        row(x, 4, 1, 0, 2, 9);
        row(x, 3, 1, 0, 3, 5);
        row(x, 2, 2, 1, 4, 4);
        row(x, 1, 2, 1, 5, 4);
        row(x, 0, 2, 0, 1, 5);
        CHECK.due("rows", x.count(12), 6);
        CHECK.due("6 ago", x.log(6, 0), -1);
        CHECK.due("-1 ago", x.log(-1, 0), -1);
        CHECK.due("MIN ago", x.log(Integer.MIN_VALUE, 3), -1);
        CHECK.due("MAX ago", x.log(Integer.MAX_VALUE, 3), -1);
        CHECK.noElement("log(0, 4)", () -> x.log(0, 4));
        CHECK.noElement("log(0, -1)", () -> x.log(0, -1));
        CHECK.noElement("log(99, 4)", () -> x.log(99, 4));
        CHECK.due("led 0", x.led(0, false), 4);
        CHECK.due("led 1", x.led(1, false), 2);
        CHECK.due("led 0", x.led(0, true), 2);
        CHECK.noBounds("led(2)", () -> x.led(2, false));
        CHECK.noBounds("led(-1)", () -> x.led(-1, true));
        StoneBacks told = Check.told("person 1 back 1 at 1;person 1 back 1 at 1;stone 1 of 0 to 1");
        CHECK.due("a told one has no rows", told.led(0, false), 0);
        CHECK.due("a told one has no HOUR", told.led(0, true), -1);
    }

    private static void manyRows() {
        StoneBacks x = two();
        x.lend(0, 1, 9);
        x.lend(0, 1, 8);
        for (int i = 0; i < 29; i++) {
            x.lay(0);
            x.lift(0, 1);
        }
        CHECK.due("60 rows", x.count(12), 60);
        row(x, 59, 0, 0, 0, 9);
        CHECK.due("led 1", x.led(1, false), 1);
        x.lay(0);
        CHECK.due("60 at most", x.count(12), 60);
        row(x, 59, 0, 1, 0, 8);
        CHECK.due("60 ago", x.log(60, 1), -1);
        CHECK.due("led 0", x.led(0, false), 59);
        x.lift(0, 1);
        CHECK.due("led 1: its row is gone", x.led(1, false), 0);
        CHECK.due("led 1: no HOUR", x.led(1, true), -1);
        CHECK.due("led 0", x.led(0, false), 60);
        x.undo();
        CHECK.due("its row is back", x.led(1, false), 1);
        row(x, 59, 0, 1, 0, 8);
    }

    private static void undone() {
        StoneBacks x = two();
        CHECK.due("none", x.undo(), false);
        x.lend(0, 1, 9);
        x.split(0);
        x.pass(1, 0);
        x.lay(1);
        x.lift(1, 0);
        x.pay(1);
        x.goal(0, 9);
        Check.tape(x, "xyz");
        x.hours(30);
        x.rest(0);
        CHECK.due("acts", x.count(13), 9);
        CHECK.due("undo the rest", x.undo(), true);
        CHECK.due("undo the hours", x.undo(), true);
        CHECK.due("HOUR", x.count(4), 0);
        CHECK.due("PLACE", x.person(0, 2), 4);
        CHECK.due("WEIGHT", x.stone(0, 2), 5);
        CHECK.due("SEED", x.seed(1), 1);
        CHECK.due("the TAPE stays", x.end(3), true);
        x.undo();
        CHECK.due("GOAL", x.person(0, 3), 4);
        x.undo();
        CHECK.due("not paid", x.stone(1, 3), 0);
        CHECK.due("PURSE", x.person(1, 0), 59);
        x.undo();
        CHECK.due("set down", x.stone(1, 3), 1);
        x.undo();
        CHECK.due("worn by 0", x.stone(1, 4), 0);
        x.undo();
        CHECK.due("worn by 1", x.stone(1, 4), 1);
        x.undo();
        CHECK.due("one STONE", x.count(1), 1);
        CHECK.due("its WEIGHT", x.stone(0, 2), 9);
        CHECK.due("the last", x.undo(), true);
        CHECK.due("no STONE", x.count(1), 0);
        CHECK.due("no rows", x.count(12), 0);
        CHECK.due("no more", x.undo(), false);
    }

    private static void undoneTwelve() {
        StoneBacks x = two();
        for (int i = 0; i < 30; i++) {
            x.goal(0, i % 12);
            CHECK.due("acts", x.count(13), Math.min(12, i + 1));
        }
        for (int i = 28; i >= 18; i--) {
            CHECK.due("undo", x.undo(), true);
            CHECK.due("GOAL", x.person(0, 3), i % 12);
        }
        CHECK.due("one more", x.count(13), 1);
        x.goal(0, 1);
        x.goal(0, 2);
        CHECK.due("three then", x.count(13), 3);
        x.undo();
        x.undo();
        CHECK.due("GOAL", x.person(0, 3), 18 % 12);
        CHECK.due("the last", x.undo(), true);
        CHECK.due("GOAL", x.person(0, 3), 17 % 12);
        CHECK.due("the thirteenth went", x.undo(), false);
    }

    private static void undoneLog() {
        StoneBacks x = two();
        x.lend(0, 1, 9);
        x.hours(1);
        x.lay(0);
        x.undo();
        row(x, 0, 0, 0, 0, 9);
        CHECK.due("one row", x.count(12), 1);
        x.undo();
        x.undo();
        CHECK.due("no row", x.log(0, 0), -1);
        x.lend(1, 0, 3);
        row(x, 0, 0, 0, 0, 3);
    }

    private static void undoneSeed() {
        StoneBacks x = two();
        x.seed(5);
        x.hours(3);
        x.seed(9);
        CHECK.due("undo", x.undo(), true);
        CHECK.due("all is as ahead of it", x.seed(1), 5);
    }

    private static void image() {
        StoneBacks x = two();
        CHECK.due("none was kept", x.back(), false);
        x.rest(0);
        CHECK.due("none was kept: nothing happens", x.count(13), 1);
        x.image();
        CHECK.due("acts are remembered still", x.count(13), 1);
        x.lend(0, 1, 9);
        x.undo();
        x.undo();
        CHECK.due("back", x.back(), true);
        CHECK.due("none are remembered", x.count(13), 0);
        CHECK.due("none are remembered", x.undo(), false);
        x.lend(0, 1, 9);
        x.hours(24);
        x.undo();
        CHECK.due("undo leaves THE IMAGE", x.back(), true);
        CHECK.due("no STONE", x.count(1), 0);
        CHECK.due("more than once", x.back(), true);
        x.lend(0, 1, 9);
        x.image();
        x.pay(0);
        x.back();
        CHECK.due("the later one", x.stone(0, 3), 0);
    }

    private static void imageOfAll() {
        StoneBacks x = two();
        Check.law(x, "tire 3 if who<1;tire 4");
        x.seed(77);
        x.lend(0, 1, 9);
        x.image();
        Check.law(x, "earn 1");
        Check.valley(x, "person 1 back 1 at 1;limit 3;hour 5;slope 1 1;porch 1;stone 1 of 2 to 0");
        Check.tape(x, "porch 2");
        x.seed(78);
        CHECK.due("back", x.back(), true);
        CHECK.due("THE LAW", x.count(3), 2);
        CHECK.due("TIRES", x.does(0, 0), 7);
        CHECK.due("EARNS", x.does(0, 1), 0);
        CHECK.due("texts", x.count(2), 1);
        CHECK.due("PEOPLE", x.count(0), 2);
        CHECK.due("STONES", x.count(1), 1);
        CHECK.due("LIMIT", x.count(5), 40);
        CHECK.due("HOUR", x.count(4), 0);
        CHECK.due("SLOPE", x.place(1, 0), 0);
        CHECK.due("PORCH", x.place(1, 1), 0);
        CHECK.due("rows", x.count(12), 1);
        CHECK.due("SEED", x.seed(1), 77);
        CHECK.due("the TAPE stays", x.valley(), 2);
        CHECK.due("PORCH 2", x.place(2, 1), 1);
        // an image from ahead of any law goes back to none
        StoneBacks y = two();
        y.image();
        Check.law(y, "");
        y.back();
        CHECK.due("no law", y.count(3), -1);
        CHECK.due("EARNS without", y.does(0, 1), 10);
        // a law told behind going back does not change THE IMAGE
        Check.law(y, "earn 5");
        y.back();
        CHECK.due("no law again", y.count(3), -1);
    }
}
