/** What is full: six PEOPLE with ten STONES, asked everything. */
public final class FullTest {
    private static final Check CHECK = new Check();

    public static void main(String[] args) {
        looks();
        questions();
        ahead();
        acts();
        calls();
        CHECK.end();
    }

    /** All at 5, without a PORCH; STONE s weighs s + 1, of s to s + 1, both modulo 6; nobody tires, earns or is hurt. */
    private static StoneBacks full() {
        StoneBacks x = Check.told("person 100 back 60 at 5" + ";person 100 back 60 at 5".repeat(5));
        StringBuilder stones = new StringBuilder("hour 0");
        for (int s = 0; s < 10; s++) {
            stones.append(";stone ").append(s + 1).append(" of ").append(s % 6).append(" to ").append((s + 1) % 6);
        }
        Check.valley(x, stones.toString());
        Check.law(x, "");
        return x;
    }

    private static void looks() {
        CHECK.of("PEOPLE (at most 6, numbered from 0 on)");
        StoneBacks x = full();
        int[] loads = {8, 10, 12, 14, 5, 6};
        int[] due = {6, 8, 10, 12, 14, 5};
        int[] worn = {65, 130, 260, 520, 16, 32};
        for (int p = 0; p < 6; p++) {
            CHECK.due("LOAD of " + p, x.person(p, 6), loads[p]);
            CHECK.due("bits of " + p, x.person(p, 7), worn[p]);
            CHECK.due("OWES of " + p, x.person(p, 8), loads[p]);
            CHECK.due("DUE of " + p, x.person(p, 9), due[p]);
            CHECK.due("BEARS of " + p, x.person(p, 10), 0);
            CHECK.due("BOWED of " + p, x.person(p, 11), 0);
        }
        CHECK.of("STONES (at most 10, numbered from 0 on)");
        for (int s = 0; s < 10; s++) {
            CHECK.due("BEARER of " + s, x.stone(s, 4), s % 6);
            CHECK.due("PLACE of " + s, x.stone(s, 5), 5);
        }
        CHECK.due("PEOPLE there", x.place(5, 2), 63);
        CHECK.due("STONES there", x.place(5, 3), 0);
        CHECK.due("WEIGHTS", x.count(10), 55);
    }

    private static void questions() {
        CHECK.of("Sets are bits; of none they count for nothing.");
        StoneBacks none = Check.told("person 0 back 1 at 0;person 0 back 1 at 0");
        CHECK.due("STONES worn", none.person(0, 7), 0);
        CHECK.due("STONES borne", none.person(0, 10), 0);
        CHECK.due("to put off", none.shed(0), 0);
        CHECK.due("to pay", none.pays(0, false), 0);
        CHECK.due("how much", none.pays(0, true), 0);
        CHECK.due("hollow ones", none.scales(false), 0);
        CHECK.due("who is HURT", none.trial(0, true), 0);
        CHECK.due("STONES set down", none.place(0, 3), 0);
        CHECK.due("WEIGHTS", none.count(10), 0);
        CHECK.due("PURSES", none.count(6), 0);
        StoneBacks x = full();
        CHECK.due("soonest", x.soonest(0), 0);
        CHECK.due("meet", x.meet(), 5);
        CHECK.due("pairs", x.pairs(), 0);
        CHECK.due("heaviest", x.heaviest(), 3);
        CHECK.due("heap", x.heap(), -1);
        CHECK.due("goes: 55 by 40", x.goes(), 2);
        CHECK.due("share: 10 alone, 9 and 1, 8 and 2, 7 and 3, 6 and 4, 5", x.share(5, -1), 10);
        for (int p = 0; p < 6; p++) {
            CHECK.due("pays of " + p, x.pays(p, false), x.person(p, 7));
            CHECK.due("how much of " + p, x.pays(p, true), x.person(p, 6));
            CHECK.due("shed of " + p, x.shed(p), 0);
            CHECK.due("cross of " + p, x.cross(p), true);
            for (int other = 0; other < 6; other++) {
                if (other != p) {
                    CHECK.due("owes of " + p + " and " + other, x.owes(p, other), true);
                }
            }
        }
        Check.valley(x, "limit 5");
        CHECK.due("shed of 3: the greater one", x.shed(3), 512);
        CHECK.due("shed of 0: the greater one", x.shed(0), 64);
        CHECK.due("goes", x.goes(), -1);
        CHECK.due("all can be hollow", x.scales(false), 1023);
        CHECK.due("or none", x.scales(true), 1);
    }

    private static void ahead() {
        CHECK.of("AHEAD by N HOURS (0 to 200)");
        StoneBacks x = full();
        CHECK.due("nobody is BOWED", x.last(false), -1);
        CHECK.due("nobody is BOWED", x.last(true), -1);
        CHECK.due("eight days", x.gravel(200), 80);
        for (int p = 0; p < 6; p++) {
            CHECK.due("first of " + p, x.first(p), 0);
            CHECK.due("LOAD of " + p, x.ahead(p, 24, 3), x.person(p, 6) + (p < 4 ? 2 : 1));
        }
        CHECK.due("PURSES", x.trial(100, false), 600);
        CHECK.due("nobody is HURT", x.span(100, true), 0);
        x.hours(24);
        CHECK.due("all are heavier", x.count(10), 65);
        Check.law(x, "tire 99 if who>4");
        CHECK.due("the last one is BOWED in 1", x.last(false), 1);
        CHECK.due("it is the last one", x.last(true), 5);
    }

    private static void acts() {
        CHECK.of("there are 10 STONES");
        StoneBacks x = full();
        CHECK.noState("lend", () -> x.lend(0, 1, 1));
        CHECK.noState("split", () -> x.split(9));
        CHECK.due("lay the last one, at its LENDER's", x.lay(9), 5);
        CHECK.due("it lies", x.place(5, 3), 512);
        CHECK.due("heap", x.heap(), 5);
        CHECK.due("lift by the last one", x.lift(9, 5), 16);
        CHECK.due("it bears it for another", x.person(5, 10), 512);
        CHECK.due("pass", x.pass(9, 0), 5);
        CHECK.due("pay the last one", x.pay(9), 90);
        CHECK.due("paid", x.count(9), 512);
        CHECK.due("its rows", x.led(9, false), 4);
        for (int s = 0; s < 9; s++) {
            x.lay(s);
        }
        CHECK.due("nine lie", x.place(5, 3), 511);
        CHECK.due("nobody wears any", x.count(7), 0);
        CHECK.due("the greatest share of none", x.share(5, -1), 0);
        CHECK.due("pairs of six", x.pairs(), 15);
    }

    private static void calls() {
        CHECK.of("An object is used for at most 512 calls after it has been made");
        StoneBacks hours = new StoneBacks();
        for (int n = 1; n <= 511; n++) {
            hours.hours(100);
        }
        CHECK.due("the 512th call", hours.count(4), 9999);
        StoneBacks texts = new StoneBacks();
        for (int n = 1; n <= 511; n++) {
            texts.law();
        }
        CHECK.due("the 512th call", texts.count(3), 0);
        StoneBacks kept = new StoneBacks();
        kept.seed(7);
        for (int n = 1; n <= 255; n++) {
            kept.image();
            kept.back();
        }
        CHECK.due("the 512th call", kept.seed(1), 7);
        StoneBacks full = full();
        // 24 calls made it: 18 times feed, and end behind each of three texts, that were read
        for (int n = 25; n <= 507; n += 2) {
            full.lay(0);
            full.lift(0, 0);
        }
        CHECK.due("the 509th call", full.count(12), 60);
        CHECK.due("the 510th call", full.count(13), 12);
        CHECK.due("the 511th call", full.undo(), true);
        CHECK.due("the 512th call", full.stone(0, 3), 1);
    }
}
