import java.util.Random;

/** All promises: long runs of calls by numbers drawn from fixed seeds, each answer compared with Model's. */
public final class ModelTest {
    private static final int RUNS = 300;
    private static final int CALLS = 512;
    private static int wrong = 0;
    private static int answered = 0;
    private static int thrown = 0;

    private final Random random;
    private final StoneBacks x = new StoneBacks();
    private final Model m = new Model();
    private final StringBuilder trail = new StringBuilder();

    private ModelTest(int seed) {
        random = new Random(seed);
    }

    public static void main(String[] args) {
        for (int run = 0; run < RUNS && wrong == 0; run++) {
            new ModelTest(run).run(run);
        }
        System.out.println(answered + " answers and " + thrown + " throws compared, " + wrong + " wrong");
        if (wrong != 0) {
            System.exit(1);
        }
    }

    private void run(int seed) {
        int calls = 0;
        if (random.nextInt(4) == 0) {
            tellFullValley();
        } else if (random.nextInt(8) > 0) {
            tell(valleyText(true), true);
        }
        if (random.nextInt(3) > 0) {
            tell(lawText(true), false);
        }
        while (calls < CALLS && wrong == 0) {
            calls++;
            step();
        }
        if (wrong != 0) {
            System.out.println("run " + seed + ":\n" + trail);
        }
    }

    private void step() {
        switch (random.nextInt(40)) {
            case 0: tell(valleyText(random.nextInt(3) > 0), true); return;
            case 1: tell(lawText(random.nextInt(3) > 0), false); return;
            case 2: tellRows(); return;
            case 3: case 4: case 5: case 6: case 7: case 8: case 9: case 10: case 11: case 12: case 13: case 14:
                act();
                return;
            case 15: case 16: case 17: case 18: case 19: case 20: case 21: case 22: case 23:
                lookClosely();
                return;
            default: ask();
        }
    }

    private void tellFullValley() {
        StringBuilder people = new StringBuilder("limit " + number(30, 99));
        for (int p = 0; p < 6; p++) {
            people.append(";person ").append(number(0, 99)).append(" back ").append(number(20, 60));
            people.append(" at ").append(number(4, 6)).append(" goal ").append(number(0, 11));
        }
        tell(people.toString(), true);
        StringBuilder stones = new StringBuilder("porch 5");
        for (int s = 0; s < 10; s++) {
            int debtor = random.nextInt(6);
            stones.append(";stone ").append(number(1, 40)).append(" of ").append(debtor).append(" to ");
            stones.append((debtor + 1 + random.nextInt(5)) % 6);
        }
        tell(stones.toString(), true);
    }

    // ---- one call on both

    private void both(String call, Check.Call of, Check.Call want) {
        trail.append(call);
        String got = answer(of);
        String due = answer(want);
        trail.append(" -> ").append(got).append('\n');
        if (got.startsWith("throws")) {
            thrown++;
        } else {
            answered++;
        }
        if (!got.equals(due)) {
            wrong++;
            trail.append("    due is ").append(due).append('\n');
        }
    }

    private static String answer(Check.Call call) {
        try {
            return "" + call.answer();
        } catch (RuntimeException e) {
            return "throws " + e.getClass().getName();
        }
    }

    private static long bit(boolean b) {
        return b ? 1 : 0;
    }

    // ---- arguments, mostly right ones

    private int odd() {
        int[] odd = {-1, -2, 6, 10, 12, 99, 1000, Integer.MIN_VALUE, Integer.MAX_VALUE};
        return odd[random.nextInt(odd.length)];
    }

    private int upTo(int most) {
        return random.nextInt(25) == 0 ? odd() : most <= 0 ? 0 : random.nextInt(most);
    }

    private int aPerson() {
        return upTo(m.w.humans.size());
    }

    private int aStone() {
        return upTo(m.w.rocks.size());
    }

    // ---- the TAPE

    private void put(String text) {
        byte[] bytes = new byte[(text.length() + 19) / 20 * 20];
        for (int i = 0; i < text.length(); i++) {
            bytes[i] = (byte) text.charAt(i);
        }
        trail.append("text '").append(text).append("'\n");
        for (int i = 0; i < bytes.length; i += 20) {
            int a = Check.number(bytes, i), b = Check.number(bytes, i + 4), c = Check.number(bytes, i + 8);
            int d = Check.number(bytes, i + 12), e = Check.number(bytes, i + 16);
            both("feed", () -> x.feed(a, b, c, d, e), () -> m.feed(a, b, c, d, e));
        }
        both("end", () -> bit(x.end(text.length())), () -> bit(m.end(text.length())));
    }

    private void tell(String text, boolean isValley) {
        put(text);
        if (isValley) {
            both("valley()", () -> x.valley(), () -> m.valley());
        } else {
            both("law()", () -> x.law(), () -> m.law());
        }
        both("fault()", () -> x.fault(), () -> m.fault);
    }

    private void tellRows() {
        StringBuilder rows = new StringBuilder();
        int many = random.nextInt(4);
        for (int i = 0; i < many; i++) {
            int left = Math.max(0, aPerson()) & 255;
            int right = Math.max(0, aPerson()) & 255;
            rows.append((char) left).append((char) right);
            boolean can = left < m.w.humans.size() && right < m.w.humans.size();
            rows.append((char) (can && random.nextInt(3) > 0 ? m.side(random.nextInt(11) - 1, left, right) : upTo(3) & 255));
        }
        if (random.nextInt(20) == 0) {
            rows.append((char) 0);
        }
        put(rows.toString());
        boolean none = random.nextBoolean();
        if (random.nextBoolean()) {
            both("weigh()", () -> x.weigh(), () -> m.weigh());
        } else {
            both("scales(" + none + ")", () -> x.scales(none), () -> m.scales(none));
        }
    }

    private String number(int least, int most) {
        int n = random.nextInt(60) == 0 ? random.nextInt(1200) : least + random.nextInt(Math.max(1, most - least + 1));
        return random.nextInt(8) == 0 ? "0" + n : "" + n;
    }

    private String blank() {
        return " ".repeat(random.nextInt(5) == 0 ? 2 : 1);
    }

    private String valleyText(boolean right) {
        StringBuilder text = new StringBuilder();
        int people = m.w.humans.size();
        int stones = m.w.rocks.size();
        int lines = random.nextInt(16);
        for (int i = 0; i < lines && text.length() < 350; i++) {
            if (i > 0) {
                text.append(random.nextInt(4) == 0 ? " ; " : ";");
            }
            int kind = random.nextInt(10);
            if (people < 2 || kind < 3 && people < 6) {
                text.append("person").append(blank()).append(number(0, random.nextBoolean() ? 40 : 999)).append(" back ");
                text.append(number(1, 60)).append(" at").append(blank()).append(number(0, 11));
                if (random.nextBoolean()) {
                    text.append(" goal ").append(number(0, 11));
                }
                people++;
            } else if (kind < 7 && stones < 10) {
                int debtor = random.nextInt(people);
                int lender = (debtor + 1 + random.nextInt(people - 1)) % people;
                text.append("stone ").append(number(1, random.nextBoolean() ? 10 : 40)).append(" of ").append(debtor);
                text.append(" to ").append(random.nextInt(40) == 0 ? debtor : lender);
                if (random.nextInt(3) == 0) {
                    text.append(" worn by ").append(random.nextInt(40) == 0 ? lender : (lender + 1) % people);
                }
                stones++;
            } else if (kind == 7) {
                text.append("slope ").append(number(0, 11)).append(' ').append(number(0, 3));
            } else if (kind == 8) {
                text.append("porch ").append(number(0, 11));
            } else {
                text.append(random.nextBoolean() ? "limit " + number(1, 99) : "hour " + number(0, 999));
            }
        }
        return right ? text.toString() : spoiled(text);
    }

    private String lawText(boolean right) {
        StringBuilder text = new StringBuilder();
        int lines = random.nextInt(14);
        for (int i = 0; i < lines && text.length() < 300; i++) {
            if (i > 0) {
                text.append(random.nextInt(4) == 0 ? " ; " : ";");
            }
            String[] kinds = {"tire ", "earn ", "hurt "};
            text.append(kinds[random.nextInt(3)]).append(number(0, random.nextBoolean() ? 9 : 99));
            if (random.nextInt(4) > 0) {
                text.append(" if ");
                condition(text, 0);
            }
        }
        return right ? text.toString() : spoiled(text);
    }

    private void condition(StringBuilder text, int deep) {
        int atoms = 1 + (random.nextInt(3) == 0 ? random.nextInt(3) : 0);
        for (int i = 0; i < atoms; i++) {
            if (i > 0) {
                text.append(random.nextBoolean() ? " and " : " or ");
            }
            atom(text, deep);
        }
    }

    private void atom(StringBuilder text, int deep) {
        int kind = random.nextInt(8);
        if (kind == 0 && text.length() < 330) {
            text.append("not ");
            atom(text, deep + 1);
        } else if (kind < 3 && text.length() < 330) {
            text.append('(');
            condition(text, deep + 1);
            text.append(')');
        } else if (kind == 3) {
            text.append("there");
        } else if (kind == 4) {
            text.append("light");
        } else {
            sum(text);
            text.append(random.nextBoolean() ? " < " : ">");
            sum(text);
        }
    }

    private void sum(StringBuilder text) {
        String[] parts = {"who", "load", "back", "place", "slope", "tired", "hour"};
        int many = 1 + (random.nextInt(4) == 0 ? random.nextInt(3) : 0);
        for (int i = 0; i < many; i++) {
            if (i > 0) {
                text.append('+');
            }
            text.append(random.nextBoolean() ? parts[random.nextInt(7)] : number(0, 30));
        }
    }

    private String spoiled(StringBuilder text) {
        String[] pieces = {";", " ", "(", ")", "+", "<", ">", "not ", "and", "or", "if", "x", "0", "9999", "there", "light",
            "load", "goal", "by", "worn ", "person ", "stone ", "tire ", "\u0000", "\u00ff", "A", "((((((", "not not not "};
        int many = 1 + random.nextInt(2);
        for (int i = 0; i < many; i++) {
            int at = random.nextInt(text.length() + 1);
            switch (random.nextInt(3)) {
                case 0: text.setLength(at); break;
                case 1: text.insert(at, pieces[random.nextInt(pieces.length)]); break;
                default: text.delete(at, Math.min(text.length(), at + 1 + random.nextInt(4)));
            }
        }
        return text.length() > 400 ? text.substring(0, 400) : text.toString();
    }

    // ---- acts and questions

    private void act() {
        int p = aPerson();
        int q = aPerson();
        int s = aStone();
        int n = upTo(40) + 1;
        int place = upTo(12);
        switch (random.nextInt(12)) {
            case 0: both("lend(" + p + ", " + q + ", " + n + ")", () -> x.lend(p, q, n), () -> m.lend(p, q, n)); return;
            case 1: both("pay(" + s + ")", () -> x.pay(s), () -> m.pay(s)); return;
            case 2: both("split(" + s + ")", () -> x.split(s), () -> m.split(s)); return;
            case 3: both("pass(" + s + ", " + q + ")", () -> x.pass(s, q), () -> m.pass(s, q)); return;
            case 4: both("lay(" + s + ")", () -> x.lay(s), () -> m.lay(s)); return;
            case 5: both("lift(" + s + ", " + q + ")", () -> x.lift(s, q), () -> m.lift(s, q)); return;
            case 6: both("goal(" + p + ", " + place + ")", () -> x.goal(p, place), () -> m.goal(p, place)); return;
            case 7: both("rest(" + p + ")", () -> x.rest(p), () -> m.rest(p)); return;
            case 8: {
                int h = random.nextInt(4) == 0 ? upTo(102) : 1 + random.nextInt(8);
                both("hours(" + h + ")", () -> x.hours(h), () -> m.hours(h));
                return;
            }
            case 9: both("undo()", () -> bit(x.undo()), () -> bit(m.undo())); return;
            case 10:
                if (random.nextInt(4) == 0) {
                    int seed = random.nextInt();
                    both("seed(" + seed + ")", () -> x.seed(seed), () -> m.seed(seed));
                }
                return;
            default:
                if (random.nextInt(6) == 0) {
                    trail.append("image()\n");
                    x.image();
                    m.image();
                } else if (random.nextInt(4) == 0) {
                    both("back()", () -> bit(x.back()), () -> bit(m.back()));
                }
        }
    }

    private void lookClosely() {
        int what = upTo(14);
        int p = aPerson();
        int s = aStone();
        int place = upTo(12);
        int ago = upTo(60);
        switch (random.nextInt(7)) {
            case 0: both("person(" + p + ", " + what + ")", () -> x.person(p, what), () -> m.person(p, what)); return;
            case 1: both("does(" + p + ", " + what % 4 + ")", () -> x.does(p, what % 4), () -> m.does(p, what % 4)); return;
            case 2: both("stone(" + s + ", " + what % 7 + ")", () -> x.stone(s, what % 7), () -> m.stone(s, what % 7)); return;
            case 3: both("place(" + place + ", " + what % 5 + ")", () -> x.place(place, what % 5),
                    () -> m.place(place, what % 5)); return;
            case 4: both("log(" + ago + ", " + what % 5 + ")", () -> x.log(ago, what % 5), () -> m.log(ago, what % 5)); return;
            case 5: both("led(" + s + ")", () -> x.led(s, what > 5), () -> m.led(s, what > 5)); return;
            default: both("count(" + what + ")", () -> x.count(what), () -> m.count(what));
        }
    }

    private void ask() {
        int p = aPerson();
        int q = aPerson();
        int place = random.nextInt(3) > 0 && p >= 0 && p < m.w.humans.size() ? m.w.humans.get(p).place : upTo(12);
        int k = upTo(8) - 1;
        boolean b = random.nextBoolean();
        int n = upTo(202);
        switch (random.nextInt(20)) {
            case 0: case 1: both("way(" + p + ", " + k + ")", () -> x.way(p, k), () -> m.way(p, k)); return;
            case 2: both("soonest(" + place + ")", () -> x.soonest(place), () -> m.soonest(place)); return;
            case 3: both("cross(" + p + ")", () -> bit(x.cross(p)), () -> bit(m.cross(p))); return;
            case 4: both("shed(" + p + ")", () -> x.shed(p), () -> m.shed(p)); return;
            case 5: case 6: both("share(" + place + ", " + k + ")", () -> x.share(place, k), () -> m.share(place, k)); return;
            case 7: both("goes()", () -> x.goes(), () -> m.goes()); return;
            case 8: both("pays(" + p + ", " + b + ")", () -> x.pays(p, b), () -> m.pays(p, b)); return;
            case 9: both("first(" + p + ")", () -> x.first(p), () -> m.first(p)); return;
            case 10: both("owes(" + p + ", " + q + ")", () -> bit(x.owes(p, q)), () -> bit(m.owes(p, q))); return;
            case 11: {
                int weight = upTo(42);
                both("rests(" + p + ", " + q + ", " + weight + ")", () -> x.rests(p, q, weight), () -> m.rests(p, q, weight));
                return;
            }
            case 12: both("meet()", () -> x.meet(), () -> m.meet()); return;
            case 13: both("last(" + b + ")", () -> x.last(b), () -> m.last(b)); return;
            case 14: both("heap()", () -> x.heap(), () -> m.heap()); return;
            case 15: both("pairs()", () -> x.pairs(), () -> m.pairs()); return;
            case 16: both("heaviest()", () -> x.heaviest(), () -> m.heaviest()); return;
            case 17: both("gravel(" + n + ")", () -> x.gravel(n), () -> m.gravel(n)); return;
            case 18: both("ahead(" + p + ", " + n + ", " + k + ")", () -> x.ahead(p, n, k), () -> m.ahead(p, n, k)); return;
            default:
                if (b) {
                    both("trial(" + n / 2 + ")", () -> x.trial(n / 2, k > 2), () -> m.trial(n / 2, k > 2));
                } else {
                    both("span(" + n / 2 + ")", () -> x.span(n / 2, k > 2), () -> m.span(n / 2, k > 2));
                }
        }
    }
}
