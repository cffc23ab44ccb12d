import java.util.ArrayList;
import java.util.List;
import java.util.NoSuchElementException;

/**
 * The document once more, written as plainly as can be and without thrift (all ways are tried, THE LAW is read anew
 * each time it is asked), so that the two can be compared call by call.
 */
final class Model {
    static final class Wrong extends RuntimeException {
        private static final long serialVersionUID = 1L;
        final int at;

        Wrong(int at) {
            this.at = at;
        }
    }

    static final class Human {
        int purse, back, place, goal, tired;
        boolean hurt;

        Human copy() {
            Human h = new Human();
            h.purse = purse; h.back = back; h.place = place; h.goal = goal; h.tired = tired; h.hurt = hurt;
            return h;
        }
    }

    static final class Rock {
        int debtor, lender, weight, state, bearer = -1, place = -1;

        Rock copy() {
            Rock r = new Rock();
            r.debtor = debtor; r.lender = lender; r.weight = weight; r.state = state; r.bearer = bearer; r.place = place;
            return r;
        }
    }

    static final class World {
        List<Human> humans = new ArrayList<>();
        List<Rock> rocks = new ArrayList<>();
        int[] slope = new int[12];
        boolean[] porch = new boolean[12];
        int limit = 40, hour = 0, seed = 1, texts = 0;
        String law = null;
        int lawLines = 0;
        List<int[]> log = new ArrayList<>();

        World copy() {
            World w = new World();
            for (Human h : humans) w.humans.add(h.copy());
            for (Rock r : rocks) w.rocks.add(r.copy());
            w.slope = slope.clone(); w.porch = porch.clone();
            w.limit = limit; w.hour = hour; w.seed = seed; w.texts = texts; w.law = law; w.lawLines = lawLines;
            w.log.addAll(log);
            return w;
        }

        int load(int p) {
            int sum = 0;
            for (Rock r : rocks) if (r.state == 0 && r.bearer == p) sum += r.weight;
            return sum;
        }

        boolean bowed(int p) {
            Human h = humans.get(p);
            return load(p) > h.back || h.tired == 99 || h.hurt;
        }

        int does(int p, int what) {
            if (law == null) {
                int load = load(p);
                return what == 0 ? load / 4 : what == 1 ? Math.max(0, 10 - load / 4)
                        : Math.max(0, load - humans.get(p).back);
            }
            LawReader reader = new LawReader(law, this, p);
            reader.read();
            return what == 2 ? Math.min(100, reader.sums[2]) : reader.sums[what];
        }

        int pass(boolean draws) {
            for (int p = 0; p < humans.size(); p++) {
                Human h = humans.get(p);
                if (h.place == h.goal) {
                    h.purse = Math.min(9999, h.purse + does(p, 1));
                } else if (!bowed(p)) {
                    int next = h.place + Integer.signum(h.goal - h.place);
                    boolean bridge = h.place + next == 11;
                    if (!(bridge && load(p) > limit)) h.place = next;
                }
            }
            int got = 0;
            for (int p = 0; p < humans.size(); p++) {
                Human h = humans.get(p);
                if (h.hurt) continue;
                h.tired = Math.min(99, h.tired + does(p, 0));
                if (draws) {
                    long s = (1103515245L * seed + 12345L) & 0xffffffffL;
                    seed = (int) s;
                    if ((s >> 16 & 0x7fff) % 100 < does(p, 2)) {
                        h.hurt = true;
                        got++;
                    }
                }
            }
            hour = Math.min(9999, hour + 1);
            if (hour % 24 == 0) {
                for (Rock r : rocks) if (r.state != 2) r.weight = Math.min(40, r.weight + 1);
                for (Human h : humans) h.tired = h.tired / 2;
            }
            return got;
        }

        int hurtBits() {
            int bits = 0;
            for (int p = 0; p < humans.size(); p++) if (humans.get(p).hurt) bits += 1 << p;
            return bits;
        }

        int purses() {
            int sum = 0;
            for (Human h : humans) sum += h.purse;
            return sum;
        }

        int unpaid() {
            int sum = 0;
            for (Rock r : rocks) if (r.state != 2) sum += r.weight;
            return sum;
        }

        int owed(int p) {
            int sum = 0;
            for (Rock r : rocks) if (r.state != 2 && r.debtor == p) sum += r.weight;
            return sum;
        }

        int way(int p, int to) {
            int at = humans.get(p).place, hours = 0, load = load(p);
            if ((at <= 5) != (to <= 5) && load > limit) return -1;
            int low = Math.min(at, to), high = Math.max(at, to);
            for (int place = low; place <= high; place++) if (place != at) hours += 1 + load / 10 * slope[place];
            return hours;
        }
    }

    /** Characters and blanks of a text. */
    static class Reader {
        final String text;
        int at = 0;

        Reader(String text) {
            this.text = text;
            blanks();
        }

        void blanks() {
            while (at < text.length() && text.charAt(at) == ' ') at++;
        }

        char peek() {
            return at < text.length() ? text.charAt(at) : (char) 0xffff;
        }

        String peekWord() {
            int to = at;
            while (to < text.length() && text.charAt(to) >= 'a' && text.charAt(to) <= 'z') to++;
            return text.substring(at, to);
        }

        boolean maybe(String word) {
            if (!peekWord().equals(word)) return false;
            at += word.length();
            blanks();
            return true;
        }

        void word(String word) {
            if (!maybe(word)) throw new Wrong(at);
        }

        boolean maybeSign(char c) {
            if (peek() != c) return false;
            at++;
            blanks();
            return true;
        }

        int number(int least, int most) {
            int to = at;
            while (to < text.length() && text.charAt(to) >= '0' && text.charAt(to) <= '9') to++;
            if (to == at || to - at > 3) throw new Wrong(at);
            int n = Integer.parseInt(text.substring(at, to));
            if (n < least || n > most) throw new Wrong(at);
            at = to;
            blanks();
            return n;
        }
    }

    static final class ValleyReader extends Reader {
        final World w;

        ValleyReader(String text, World w) {
            super(text);
            this.w = w;
        }

        void read() {
            if (at == text.length()) return;
            int lines = 0;
            do {
                if (lines == 14) throw new Wrong(at);
                line();
                lines++;
            } while (maybeSign(';'));
            if (at < text.length()) throw new Wrong(at);
        }

        int who(int not) {
            int begin = at;
            int p = number(0, w.humans.size() - 1);
            if (p == not) throw new Wrong(begin);
            return p;
        }

        void line() {
            int begin = at;
            if (maybe("person")) {
                if (w.humans.size() == 6) throw new Wrong(begin);
                Human h = new Human();
                h.purse = number(0, 999);
                word("back");
                h.back = number(1, 60);
                word("at");
                h.place = number(0, 11);
                h.goal = maybe("goal") ? number(0, 11) : h.place;
                w.humans.add(h);
            } else if (maybe("stone")) {
                if (w.rocks.size() == 10) throw new Wrong(begin);
                Rock r = new Rock();
                r.weight = number(1, 40);
                word("of");
                r.debtor = who(-1);
                word("to");
                r.lender = who(r.debtor);
                r.bearer = r.debtor;
                if (maybe("worn")) {
                    word("by");
                    r.bearer = who(r.lender);
                }
                w.rocks.add(r);
            } else if (maybe("slope")) {
                int place = number(0, 11);
                w.slope[place] = number(0, 3);
            } else if (maybe("porch")) {
                w.porch[number(0, 11)] = true;
            } else if (maybe("limit")) {
                w.limit = number(1, 99);
            } else if (maybe("hour")) {
                w.hour = number(0, 999);
            } else {
                throw new Wrong(at);
            }
        }
    }

    /** Reads THE LAW and reckons it for a PERSON at once (person -1: it is read alone). */
    static final class LawReader extends Reader {
        final World w;
        final int p;
        final int[] sums = new int[3];
        int lines = 0;

        LawReader(String text, World w, int p) {
            super(text);
            this.w = w;
            this.p = p;
        }

        void read() {
            if (at == text.length()) return;
            do {
                if (lines == 12) throw new Wrong(at);
                int kind = maybe("tire") ? 0 : maybe("earn") ? 1 : maybe("hurt") ? 2 : -1;
                if (kind < 0) throw new Wrong(at);
                int n = number(0, 99);
                if (!maybe("if") || either(0)) sums[kind] += n;
                lines++;
            } while (maybeSign(';'));
            if (at < text.length()) throw new Wrong(at);
        }

        boolean either(int deep) {
            boolean b = all(deep);
            while (maybe("or")) b = all(deep) | b;
            return b;
        }

        boolean all(int deep) {
            boolean b = atom(deep);
            while (maybe("and")) b = atom(deep) & b;
            return b;
        }

        boolean atom(int deep) {
            int begin = at;
            if (maybe("not")) {
                if (deep == 6) throw new Wrong(begin);
                return !atom(deep + 1);
            }
            if (maybeSign('(')) {
                if (deep == 6) throw new Wrong(begin);
                boolean b = either(deep + 1);
                if (!maybeSign(')')) throw new Wrong(at);
                return b;
            }
            if (maybe("there")) return p >= 0 && w.humans.get(p).place == w.humans.get(p).goal;
            if (maybe("light")) return p >= 0 && w.load(p) == 0;
            int left = sum();
            boolean less = maybeSign('<');
            if (!less && !maybeSign('>')) throw new Wrong(at);
            int right = sum();
            return less ? left < right : left > right;
        }

        int sum() {
            int s = part();
            while (maybeSign('+')) s += part();
            return s;
        }

        int part() {
            if (peek() >= '0' && peek() <= '9') return number(0, 999);
            String[] names = {"who", "load", "back", "place", "slope", "tired", "hour"};
            for (int i = 0; i < names.length; i++) if (maybe(names[i])) return p < 0 ? 0 : value(i);
            throw new Wrong(at);
        }

        int value(int i) {
            Human h = w.humans.get(p);
            int[] values = {p, w.load(p), h.back, h.place, w.slope[h.place], h.tired, w.hour % 24};
            return values[i];
        }
    }

    World w = new World();
    World kept = null;
    final List<World> memory = new ArrayList<>();
    String tape = "";
    int fault = -1;

    void person(int p) {
        if (p < 0 || p >= w.humans.size()) throw new IndexOutOfBoundsException();
    }

    void stone(int s) {
        if (s < 0 || s >= w.rocks.size()) throw new IndexOutOfBoundsException();
    }

    void place(int p) {
        if (p < 0 || p > 11) throw new IndexOutOfBoundsException();
    }

    void argument(boolean right) {
        if (!right) throw new IllegalArgumentException();
    }

    void state(boolean right) {
        if (!right) throw new IllegalStateException();
    }

    void act() {
        memory.add(w.copy());
        if (memory.size() > 12) memory.remove(0);
    }

    void row(int s, int what) {
        w.log.add(new int[] {w.hour, s, what, w.rocks.get(s).weight});
        if (w.log.size() > 60) w.log.remove(0);
    }

    int feed(int... numbers) {
        if (tape.length() + 20 > 400) return -1;
        StringBuilder more = new StringBuilder(tape);
        for (int n : numbers) for (int i = 3; i >= 0; i--) more.append((char) (n >>> 8 * i & 255));
        tape = more.toString();
        return tape.length();
    }

    boolean end(int n) {
        if (n < 0 || n > tape.length()) return false;
        tape = tape.substring(0, n);
        return true;
    }

    String useTape() {
        String text = tape;
        tape = "";
        return text;
    }

    int valley() {
        World next = w.copy();
        fault = -1;
        try {
            new ValleyReader(useTape(), next).read();
        } catch (Wrong e) {
            fault = e.at;
        }
        argument(fault == -1);
        if (w.texts == 12) throw new UnsupportedOperationException();
        w = next;
        memory.clear();
        return ++w.texts;
    }

    int law() {
        LawReader reader = new LawReader(useTape(), w, -1);
        fault = -1;
        try {
            reader.read();
        } catch (Wrong e) {
            fault = e.at;
        }
        argument(fault == -1);
        w.law = reader.text;
        w.lawLines = reader.lines;
        memory.clear();
        return reader.lines;
    }

    int person(int p, int what) {
        person(p);
        Human h = w.humans.get(p);
        int worn = 0, due = 0, bears = 0;
        for (int s = 0; s < w.rocks.size(); s++) {
            Rock r = w.rocks.get(s);
            if (r.state == 0 && r.bearer == p) worn += 1 << s;
            if (r.state == 0 && r.bearer == p && r.debtor != p) bears += 1 << s;
            if (r.state != 2 && r.lender == p) due += r.weight;
        }
        int[] all = {h.purse, h.back, h.place, h.goal, h.tired, h.hurt ? 1 : 0, w.load(p), worn, w.owed(p), due, bears,
            w.bowed(p) ? 1 : 0};
        return of(all, what);
    }

    static int of(int[] all, int what) {
        if (what < 0 || what >= all.length) throw new NoSuchElementException();
        return all[what];
    }

    int does(int p, int what) {
        person(p);
        if (what < 0 || what > 2) throw new NoSuchElementException();
        return w.does(p, what);
    }

    int stone(int s, int what) {
        stone(s);
        Rock r = w.rocks.get(s);
        int where = r.state == 0 ? w.humans.get(r.bearer).place : r.state == 1 ? r.place : -1;
        return of(new int[] {r.debtor, r.lender, r.weight, r.state, r.state == 0 ? r.bearer : -1, where}, what);
    }

    int place(int place, int what) {
        place(place);
        int people = 0, stones = 0;
        for (int p = 0; p < w.humans.size(); p++) if (w.humans.get(p).place == place) people += 1 << p;
        for (int s = 0; s < w.rocks.size(); s++) {
            if (w.rocks.get(s).state == 1 && w.rocks.get(s).place == place) stones += 1 << s;
        }
        return of(new int[] {w.slope[place], w.porch[place] ? 1 : 0, people, stones}, what);
    }

    int lend(int lender, int p, int weight) {
        person(lender);
        person(p);
        argument(lender != p && weight >= 1 && weight <= 40);
        state(w.rocks.size() < 10 && w.humans.get(lender).purse >= weight);
        act();
        w.humans.get(lender).purse -= weight;
        w.humans.get(p).purse = Math.min(9999, w.humans.get(p).purse + weight);
        Rock r = new Rock();
        r.debtor = p; r.lender = lender; r.weight = weight; r.bearer = p;
        w.rocks.add(r);
        row(w.rocks.size() - 1, 0);
        return w.rocks.size() - 1;
    }

    int pay(int s) {
        stone(s);
        Rock r = w.rocks.get(s);
        state(r.state != 2 && w.humans.get(r.debtor).purse >= r.weight);
        act();
        row(s, 1);
        w.humans.get(r.debtor).purse -= r.weight;
        Human lender = w.humans.get(r.lender);
        lender.purse = Math.min(9999, lender.purse + r.weight);
        r.state = 2;
        return w.humans.get(r.debtor).purse;
    }

    int split(int s) {
        stone(s);
        Rock r = w.rocks.get(s);
        state(r.state != 2 && r.weight > 1 && w.rocks.size() < 10);
        act();
        row(s, 2);
        Rock half = r.copy();
        half.weight = r.weight / 2;
        r.weight -= half.weight;
        w.rocks.add(half);
        return w.rocks.size() - 1;
    }

    int pass(int s, int p) {
        stone(s);
        person(p);
        Rock r = w.rocks.get(s);
        argument(!(r.state == 0 && r.bearer == p));
        state(r.state == 0 && w.humans.get(r.bearer).place == w.humans.get(p).place);
        act();
        row(s, 3);
        int before = r.bearer;
        r.bearer = p;
        return before;
    }

    int lay(int s) {
        stone(s);
        Rock r = w.rocks.get(s);
        state(r.state == 0);
        int at = w.humans.get(r.bearer).place;
        state(w.porch[at] || w.humans.get(r.lender).place == at);
        act();
        row(s, 4);
        r.state = 1;
        r.place = at;
        return at;
    }

    int lift(int s, int p) {
        stone(s);
        person(p);
        Rock r = w.rocks.get(s);
        state(r.state == 1 && r.place == w.humans.get(p).place);
        act();
        row(s, 5);
        r.state = 0;
        r.bearer = p;
        return w.load(p);
    }

    int goal(int p, int place) {
        person(p);
        place(place);
        act();
        int before = w.humans.get(p).goal;
        w.humans.get(p).goal = place;
        return before;
    }

    int rest(int p) {
        person(p);
        act();
        int before = w.humans.get(p).tired;
        w.humans.get(p).tired = 0;
        w.humans.get(p).hurt = false;
        return before;
    }

    int hours(int n) {
        argument(n >= 1 && n <= 100);
        act();
        int got = 0;
        for (int i = 0; i < n; i++) got += w.pass(true);
        return got;
    }

    int way(int p, int place) {
        person(p);
        place(place);
        return w.way(p, place);
    }

    int soonest(int place) {
        place(place);
        int best = -1;
        for (int p = w.humans.size() - 1; p >= 0; p--) {
            if (!w.bowed(p) && w.way(p, place) >= 0 && (best < 0 || w.way(p, place) <= w.way(best, place))) best = p;
        }
        return best;
    }

    boolean cross(int p) {
        person(p);
        return w.load(p) <= w.limit;
    }

    int sum(int set) {
        int sum = 0;
        for (int s = 0; s < w.rocks.size(); s++) if ((set & 1 << s) != 0) sum += w.rocks.get(s).weight;
        return sum;
    }

    int shed(int p) {
        person(p);
        int worn = person(p, 7);
        for (int many = 0; many <= 10; many++) {
            for (int set = 0; set < 1024; set++) {
                if ((set | worn) == worn && Integer.bitCount(set) == many
                        && sum(worn - set) <= Math.min(w.limit, w.humans.get(p).back)) return set;
            }
        }
        throw new AssertionError();
    }

    int share(int place, int k) {
        place(place);
        List<Integer> people = new ArrayList<>();
        List<Integer> weights = new ArrayList<>();
        for (int p = 0; p < w.humans.size(); p++) if (w.humans.get(p).place == place) people.add(p);
        for (Rock r : w.rocks) if (r.state == 0 && people.contains(r.bearer)) weights.add(r.weight);
        if (people.isEmpty()) return -1;
        for (int most = 0; ; most++) {
            int[] loads = new int[people.size()];
            int[] to = new int[weights.size()];
            if (fits(0, most, weights, loads, to)) {
                return k == -1 ? most : k >= 0 && k < to.length ? people.get(to[k]) : -1;
            }
        }
    }

    static boolean fits(int i, int most, List<Integer> weights, int[] loads, int[] to) {
        if (i == weights.size()) return true;
        int room = 0, rest = 0;
        for (int load : loads) room += most - load;
        for (int j = i; j < weights.size(); j++) rest += weights.get(j);
        if (rest > room) return false;
        for (int p = 0; p < loads.length; p++) {
            if (loads[p] + weights.get(i) <= most) {
                loads[p] += weights.get(i);
                to[i] = p;
                if (fits(i + 1, most, weights, loads, to)) return true;
                loads[p] -= weights.get(i);
            }
        }
        return false;
    }

    int goes() {
        int n = w.humans.size();
        for (int p = 0; p < n; p++) if (w.load(p) > w.limit) return -1;
        if (n == 0) return 0;
        List<Integer> loads = new ArrayList<>();
        for (int p = 0; p < n; p++) loads.add(w.load(p));
        for (int many = 1; ; many++) if (fits(0, w.limit, loads, new int[many], new int[n])) return many;
    }

    int pays(int p, boolean much) {
        person(p);
        int best = 0;
        for (int set = 1023; set >= 0; set--) {
            boolean own = set < 1 << w.rocks.size();
            for (int s = 0; s < w.rocks.size() && own; s++) {
                Rock r = w.rocks.get(s);
                if ((set & 1 << s) != 0 && (r.debtor != p || r.state == 2)) own = false;
            }
            if (own && sum(set) <= w.humans.get(p).purse && sum(set) >= sum(best)) best = set;
        }
        return much ? sum(best) : best;
    }

    World ahead(int n) {
        World next = w.copy();
        for (int i = 0; i < n; i++) next.pass(false);
        return next;
    }

    int first(int p) {
        person(p);
        World next = w.copy();
        for (int n = 0; n <= 200; n++, next.pass(false)) if (next.humans.get(p).purse >= next.owed(p)) return n;
        return -1;
    }

    boolean owes(int p, int other) {
        person(p);
        person(other);
        argument(p != other);
        boolean[][] to = new boolean[6][6];
        for (Rock r : w.rocks) if (r.state != 2) to[r.debtor][r.lender] = true;
        for (int k = 0; k < 6; k++) for (int i = 0; i < 6; i++) for (int j = 0; j < 6; j++) to[i][j] |= to[i][k] && to[k][j];
        return to[p][other];
    }

    int rests(int lender, int debtor, int weight) {
        person(lender);
        person(debtor);
        argument(lender != debtor && weight >= 1 && weight <= 40);
        int half = weight / 2, room = w.humans.get(debtor).back - w.load(debtor);
        int[][] forLender = {{weight, -weight}, {half, -half}};
        int[][] forDebtor = {{room - weight, -10}, {room - half, -10}};
        int bits = 0;
        for (int a = 0; a < 2; a++) {
            for (int b = 0; b < 2; b++) {
                if (forLender[1 - a][b] <= forLender[a][b] && forDebtor[a][1 - b] <= forDebtor[a][b]) bits += 1 << 2 * a + b;
            }
        }
        return bits;
    }

    int side(int hollow, int left, int right) {
        int[] load = new int[w.humans.size()];
        for (int s = 0; s < w.rocks.size(); s++) {
            Rock r = w.rocks.get(s);
            if (r.state == 0) load[r.bearer] += s == hollow ? r.weight / 2 : r.weight;
        }
        return 1 - Integer.signum(load[left] - load[right]);
    }

    /** The STONES that can be hollow, and -1 for none. */
    List<Integer> cases() {
        String rows = useTape();
        argument(rows.length() % 3 == 0 && rows.length() <= 36);
        for (int i = 0; i < rows.length(); i += 3) {
            argument(rows.charAt(i) < w.humans.size() && rows.charAt(i + 1) < w.humans.size());
            argument(rows.charAt(i) != rows.charAt(i + 1) && rows.charAt(i + 2) <= 2);
        }
        List<Integer> found = new ArrayList<>();
        for (int hollow = -1; hollow < w.rocks.size(); hollow++) {
            boolean can = hollow == -1 || w.rocks.get(hollow).state == 0;
            for (int i = 0; i < rows.length(); i += 3) {
                can &= side(hollow, rows.charAt(i), rows.charAt(i + 1)) == rows.charAt(i + 2);
            }
            if (can) found.add(hollow);
        }
        return found;
    }

    int scales(boolean none) {
        List<Integer> found = cases();
        if (none) return found.contains(-1) ? 1 : 0;
        int bits = 0;
        for (int s : found) if (s >= 0) bits += 1 << s;
        return bits;
    }

    int weigh() {
        List<Integer> found = cases();
        int best = -1, least = 99;
        for (int two = 0; two < 60 && found.size() > 1; two++) {
            int left = two / 10, right = two % 10;
            if (left >= right || right >= w.humans.size()) continue;
            int[] parts = new int[3];
            for (int hollow : found) parts[side(hollow, left, right)]++;
            int greatest = Math.max(parts[0], Math.max(parts[1], parts[2]));
            if (greatest < least) {
                least = greatest;
                best = two;
            }
        }
        return best;
    }

    int meet() {
        int best = -1, least = 0;
        for (int place = 0; place < 12; place++) {
            int sum = 0;
            boolean can = !w.humans.isEmpty();
            for (int p = 0; p < w.humans.size(); p++) {
                sum += w.way(p, place);
                can &= w.way(p, place) != -1;
            }
            if (can && (best == -1 || sum < least)) {
                best = place;
                least = sum;
            }
        }
        return best;
    }

    int last(boolean who) {
        World next = w.copy();
        for (int n = 0; n <= 200; n++, next.pass(false)) {
            for (int p = 0; p < next.humans.size(); p++) if (next.bowed(p)) return who ? p : n;
        }
        return -1;
    }

    int heap() {
        int best = -1;
        for (int place = 0; place < 12; place++) {
            int here = sum(place(place, 3));
            if (here > 0 && (best == -1 || here > sum(place(best, 3)))) best = place;
        }
        return best;
    }

    int pairs() {
        int n = 0;
        for (int p = 0; p < w.humans.size(); p++) for (int q = 0; q < p; q++) if (w.load(p) == w.load(q)) n++;
        return n;
    }

    int heaviest() {
        int best = -1;
        for (int p = w.humans.size() - 1; p >= 0; p--) if (best < 0 || w.load(p) >= w.load(best)) best = p;
        return best;
    }

    int gravel(int n) {
        argument(n >= 0 && n <= 200);
        return ahead(n).unpaid() - w.unpaid();
    }

    int ahead(int p, int n, int what) {
        person(p);
        argument(n >= 0 && n <= 200);
        World next = ahead(n);
        Human h = next.humans.get(p);
        return of(new int[] {h.purse, h.place, h.tired, next.load(p)}, what);
    }

    World tried(int n, int seed) {
        argument(n >= 0 && n <= 100);
        World next = w.copy();
        next.seed = seed;
        for (int i = 0; i < n; i++) next.pass(true);
        return next;
    }

    int trial(int n, boolean hurt) {
        World next = tried(n, w.seed);
        return hurt ? next.hurtBits() : next.purses();
    }

    int span(int n, boolean most) {
        int best = -1;
        for (int seed = 1; seed <= 6; seed++) {
            int many = Integer.bitCount(tried(n, seed).hurtBits());
            if (best == -1 || (most ? many > best : many < best)) best = many;
        }
        return best;
    }

    int led(int s, boolean hour) {
        stone(s);
        int rows = 0, at = -1;
        for (int[] row : w.log) {
            if (row[1] == s) {
                rows++;
                at = row[0];
            }
        }
        return hour ? at : rows;
    }

    int log(int ago, int what) {
        if (what < 0 || what > 3) throw new NoSuchElementException();
        return ago < 0 || ago >= w.log.size() ? -1 : w.log.get(w.log.size() - 1 - ago)[what];
    }

    int seed(int n) {
        int before = w.seed;
        w.seed = n;
        return before;
    }

    boolean undo() {
        if (memory.isEmpty()) return false;
        w = memory.remove(memory.size() - 1);
        return true;
    }

    void image() {
        kept = w.copy();
    }

    boolean back() {
        if (kept == null) return false;
        w = kept.copy();
        memory.clear();
        return true;
    }

    int count(int what) {
        int[] bits = new int[3];
        for (int s = 0; s < w.rocks.size(); s++) bits[w.rocks.get(s).state] += 1 << s;
        int[] all = {w.humans.size(), w.rocks.size(), w.texts, w.law == null ? -1 : w.lawLines, w.hour, w.limit,
            w.purses(), bits[0], bits[1], bits[2], w.unpaid(), w.hurtBits(), w.log.size(), memory.size()};
        return what < 0 || what >= all.length ? -1 : all[what];
    }
}
