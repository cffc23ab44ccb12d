import java.util.NoSuchElementException;

/** A valley in which what one owes is a stone that must be worn. */
public final class StoneBacks {
    public static final int NONE = -1;

    private static final int MOST_PEOPLE = 6;
    private static final int MOST_STONES = 10;
    private static final int PLACES = 12;
    private static final int NEAR_BRIDGE_END = 5;
    private static final int MOST_TEXTS = 12;
    private static final int MOST_REMEMBERED = 12;
    private static final int MOST_PURSE = 9999;
    private static final int MOST_HOUR = 9999;
    private static final int MOST_WEIGHT = 40;
    private static final int MOST_TIRED = 99;
    private static final int DAY = 24;
    private static final int MOST_AHEAD = 200;
    private static final int MOST_TRIED = 100;
    private static final int SPAN_SEEDS = 6;

    private static final int WORN = 0;
    private static final int LAID = 1;
    private static final int PAID = 2;

    private final Tape tape = new Tape();
    private final LawText lawText = new LawText();
    private final Choices choices = new Choices();
    private final Scales balance = new Scales();
    private Valley now = new Valley();
    /** Texts are read into it and HOURS to come are tried in it, so that what is now stays as it is. */
    private Valley draft = new Valley();
    private Law rule = new Law();
    private Law draftRule = new Law();
    private final Valley kept = new Valley();
    private final Law keptRule = new Law();
    private boolean isKept = false;
    private final Valley[] remembered = new Valley[MOST_REMEMBERED];
    private int rememberedFrom = 0;
    private int rememberedCount = 0;
    private int wrongByte = NONE;

    public StoneBacks() {
        for (int i = 0; i < MOST_REMEMBERED; i++) {
            remembered[i] = new Valley();
        }
    }

    // ---- the TAPE and the texts

    public int feed(int a, int b, int c, int d, int e) {
        if (!tape.hasRoomForTwenty()) {
            return NONE;
        }
        tape.addNumber(a);
        tape.addNumber(b);
        tape.addNumber(c);
        tape.addNumber(d);
        tape.addNumber(e);
        return tape.length;
    }

    public boolean end(int n) {
        if (n < 0 || n > tape.length) {
            return false;
        }
        tape.length = n;
        return true;
    }

    public int valley() throws IllegalArgumentException, UnsupportedOperationException {
        tape.cutIntoTokens();
        draft.copyFrom(now);
        boolean right = ValleyText.readLines(tape, draft);
        closeText(right);
        if (!right) {
            throw new IllegalArgumentException("the text is wrong");
        }
        if (now.texts >= MOST_TEXTS) {
            throw new UnsupportedOperationException("there are 12 texts");
        }
        draft.texts++;
        Valley before = now;
        now = draft;
        draft = before;
        forgetActs();
        return now.texts;
    }

    public int law() throws IllegalArgumentException {
        tape.cutIntoTokens();
        boolean right = lawText.readLines(tape, draftRule);
        closeText(right);
        if (!right) {
            throw new IllegalArgumentException("the text is wrong");
        }
        Law before = rule;
        rule = draftRule;
        draftRule = before;
        forgetActs();
        return rule.lines;
    }

    public int fault() {
        return wrongByte;
    }

    private void closeText(boolean right) {
        wrongByte = right ? NONE : tape.beginOfToken();
        tape.length = 0;
    }

    // ---- what there is

    public int person(int person, int what) throws IndexOutOfBoundsException, NoSuchElementException {
        needPerson(person);
        switch (what) {
            case 0: return now.people.purse[person];
            case 1: return now.people.back[person];
            case 2: return now.people.place[person];
            case 3: return now.people.goal[person];
            case 4: return now.people.tired[person];
            case 5: return now.people.isHurt(person) ? 1 : 0;
            case 6: return now.stones.load(person);
            case 7: return now.stones.wornBy(person);
            case 8: return now.stones.owedBy(person);
            case 9: return now.stones.dueTo(person);
            case 10: return now.stones.wornForOthersBy(person);
            case 11: return now.isBowed(person) ? 1 : 0;
            default: throw new NoSuchElementException("a person has no such what");
        }
    }

    public int does(int person, int what) throws IndexOutOfBoundsException, NoSuchElementException {
        needPerson(person);
        if (what < Law.TIRES || what > Law.HURTS) {
            throw new NoSuchElementException("a person does no such what");
        }
        return rule.amountFor(what, now, person);
    }

    public int stone(int stone, int what) throws IndexOutOfBoundsException, NoSuchElementException {
        needStone(stone);
        switch (what) {
            case 0: return now.stones.debtor[stone];
            case 1: return now.stones.lender[stone];
            case 2: return now.stones.weight[stone];
            case 3: return now.stones.state[stone];
            case 4: return now.stones.bearer(stone);
            case 5: return now.placeOfStone(stone);
            default: throw new NoSuchElementException("a stone has no such what");
        }
    }

    public int place(int place, int what) throws IndexOutOfBoundsException, NoSuchElementException {
        needPlace(place);
        switch (what) {
            case 0: return now.slope[place];
            case 1: return now.hasPorch(place) ? 1 : 0;
            case 2: return now.people.bitsAt(place);
            case 3: return now.stones.laidAt(place);
            default: throw new NoSuchElementException("a place has no such what");
        }
    }

    public int count(int what) {
        switch (what) {
            case 0: return now.people.count;
            case 1: return now.stones.count;
            case 2: return now.texts;
            case 3: return rule.isTold ? rule.lines : NONE;
            case 4: return now.hour;
            case 5: return now.limit;
            case 6: return now.people.allPurses();
            case 7: return now.stones.bitsOfState(WORN);
            case 8: return now.stones.bitsOfState(LAID);
            case 9: return now.stones.bitsOfState(PAID);
            case 10: return now.stones.weightNotPaid();
            case 11: return now.people.hurt;
            case 12: return now.book.rows;
            case 13: return rememberedCount;
            default: return NONE;
        }
    }

    // ---- ACTS

    public int lend(int lender, int person, int weight)
            throws IndexOutOfBoundsException, IllegalArgumentException, IllegalStateException {
        needPerson(lender);
        needPerson(person);
        if (lender == person || weight < 1 || weight > MOST_WEIGHT) {
            throw new IllegalArgumentException("two are one, or the weight is none");
        }
        if (now.stones.isFull() || now.people.purse[lender] < weight) {
            throw new IllegalStateException("it cannot be lent");
        }
        remember();
        now.people.move(lender, person, weight);
        int stone = now.stones.addNew(weight, person, lender, person);
        now.writeRow(stone, Book.LENT);
        return stone;
    }

    public int pay(int stone) throws IndexOutOfBoundsException, IllegalStateException {
        needStone(stone);
        int debtor = now.stones.debtor[stone];
        int weight = now.stones.weight[stone];
        if (now.stones.state[stone] == PAID || now.people.purse[debtor] < weight) {
            throw new IllegalStateException("it cannot be paid");
        }
        remember();
        now.writeRow(stone, Book.PAID_OFF);
        now.people.move(debtor, now.stones.lender[stone], weight);
        now.stones.state[stone] = PAID;
        return now.people.purse[debtor];
    }

    public int split(int stone) throws IndexOutOfBoundsException, IllegalStateException {
        needStone(stone);
        if (now.stones.state[stone] == PAID || now.stones.weight[stone] == 1 || now.stones.isFull()) {
            throw new IllegalStateException("it cannot be broken");
        }
        remember();
        now.writeRow(stone, Book.BROKEN);
        return now.stones.breakInTwo(stone);
    }

    public int pass(int stone, int person)
            throws IndexOutOfBoundsException, IllegalArgumentException, IllegalStateException {
        needStone(stone);
        needPerson(person);
        int bearer = now.stones.bearer(stone);
        if (bearer == person) {
            throw new IllegalArgumentException("that one wears it");
        }
        if (bearer == NONE || now.people.place[bearer] != now.people.place[person]) {
            throw new IllegalStateException("it cannot be passed on");
        }
        remember();
        now.writeRow(stone, Book.PASSED);
        now.stones.holder[stone] = person;
        return bearer;
    }

    public int lay(int stone) throws IndexOutOfBoundsException, IllegalStateException {
        needStone(stone);
        if (!now.mayBeLaid(stone)) {
            throw new IllegalStateException("it cannot be set down");
        }
        remember();
        now.writeRow(stone, Book.SET_DOWN);
        int place = now.placeOfStone(stone);
        now.stones.state[stone] = LAID;
        now.stones.holder[stone] = place;
        return place;
    }

    public int lift(int stone, int person) throws IndexOutOfBoundsException, IllegalStateException {
        needStone(stone);
        needPerson(person);
        if (now.stones.state[stone] != LAID || now.stones.holder[stone] != now.people.place[person]) {
            throw new IllegalStateException("it is not set down there");
        }
        remember();
        now.writeRow(stone, Book.LIFTED);
        now.stones.state[stone] = WORN;
        now.stones.holder[stone] = person;
        return now.stones.load(person);
    }

    public int goal(int person, int place) throws IndexOutOfBoundsException {
        needPerson(person);
        needPlace(place);
        remember();
        int before = now.people.goal[person];
        now.people.goal[person] = place;
        return before;
    }

    public int rest(int person) throws IndexOutOfBoundsException {
        needPerson(person);
        remember();
        int before = now.people.tired[person];
        now.people.tired[person] = 0;
        now.people.heal(person);
        return before;
    }

    public int hours(int n) throws IllegalArgumentException {
        if (n < 1 || n > MOST_TRIED) {
            throw new IllegalArgumentException("so many hours are none");
        }
        remember();
        int gotHurt = 0;
        for (int i = 0; i < n; i++) {
            gotHurt += now.passHour(rule, true);
        }
        return gotHurt;
    }

    public int seed(int n) {
        int before = now.seed;
        now.seed = n;
        return before;
    }

    // ---- ways and loads

    public int way(int person, int place) throws IndexOutOfBoundsException {
        needPerson(person);
        needPlace(place);
        return now.hoursOfWay(person, place);
    }

    public int soonest(int place) throws IndexOutOfBoundsException {
        needPlace(place);
        return now.soonestTo(place);
    }

    public boolean cross(int person) throws IndexOutOfBoundsException {
        needPerson(person);
        return now.stones.load(person) <= now.limit;
    }

    public int shed(int person) throws IndexOutOfBoundsException {
        needPerson(person);
        return Choices.toPutOff(now, person);
    }

    public int share(int place, int k) throws IndexOutOfBoundsException {
        needPlace(place);
        choices.dealOut(now, place);
        return k == NONE ? choices.leastGreatest() : choices.takerOf(k);
    }

    public int goes() {
        return choices.fewestGoes(now);
    }

    public int meet() {
        return now.meetingPlace();
    }

    public int heap() {
        return now.stones.heaviestHeap();
    }

    public int pairs() {
        return now.pairsOfLikeLoad();
    }

    public int heaviest() {
        return now.mostLoaded();
    }

    // ---- debts

    public int pays(int person, boolean much) throws IndexOutOfBoundsException {
        needPerson(person);
        int set = Choices.toPay(now, person);
        return much ? now.stones.weightOf(set) : set;
    }

    public boolean owes(int person, int other) throws IndexOutOfBoundsException, IllegalArgumentException {
        needPerson(person);
        needPerson(other);
        if (person == other) {
            throw new IllegalArgumentException("both are one");
        }
        return (now.stones.lendersFrom(person) >> other & 1) == 1;
    }

    public int rests(int lender, int debtor, int w) throws IndexOutOfBoundsException, IllegalArgumentException {
        needPerson(lender);
        needPerson(debtor);
        if (lender == debtor || w < 1 || w > MOST_WEIGHT) {
            throw new IllegalArgumentException("both are one, or the weight is none");
        }
        return Choices.steadyChoices(now.people.back[debtor] - now.stones.load(debtor), w);
    }

    // ---- the scales

    public int scales(boolean none) throws IllegalArgumentException {
        readWeighings();
        if (none) {
            return balance.canBeNone() ? 1 : 0;
        }
        return balance.stonesThatCanBe();
    }

    public int weigh() throws IllegalArgumentException {
        readWeighings();
        return balance.nextTwo(now);
    }

    private void readWeighings() {
        boolean right = balance.readRows(tape, now);
        tape.length = 0;
        if (!right) {
            throw new IllegalArgumentException("the tape has no such rows");
        }
        balance.findCases(now);
    }

    // ---- what is to come

    public int first(int person) throws IndexOutOfBoundsException {
        needPerson(person);
        draft.copyFrom(now);
        for (int n = 0; n <= MOST_AHEAD; n++) {
            if (draft.people.purse[person] >= draft.stones.owedBy(person)) {
                return n;
            }
            draft.passHour(rule, false);
        }
        return NONE;
    }

    public int last(boolean who) {
        draft.copyFrom(now);
        for (int n = 0; n <= MOST_AHEAD; n++) {
            int bowed = draft.firstBowed();
            if (bowed != NONE) {
                return who ? bowed : n;
            }
            draft.passHour(rule, false);
        }
        return NONE;
    }

    public int gravel(int n) throws IllegalArgumentException {
        needAhead(n);
        goAhead(n);
        return draft.stones.weightNotPaid() - now.stones.weightNotPaid();
    }

    public int ahead(int person, int n, int what)
            throws IndexOutOfBoundsException, IllegalArgumentException, NoSuchElementException {
        needPerson(person);
        needAhead(n);
        if (what < 0 || what > 3) {
            throw new NoSuchElementException("there is no such what ahead");
        }
        goAhead(n);
        switch (what) {
            case 0: return draft.people.purse[person];
            case 1: return draft.people.place[person];
            case 2: return draft.people.tired[person];
            default: return draft.stones.load(person);
        }
    }

    public int trial(int n, boolean hurt) throws IllegalArgumentException {
        needTried(n);
        tryHours(n, now.seed);
        return hurt ? draft.people.hurt : draft.people.allPurses();
    }

    public int span(int n, boolean most) throws IllegalArgumentException {
        needTried(n);
        int fewestHurt = MOST_PEOPLE;
        int mostHurt = 0;
        for (int seed = 1; seed <= SPAN_SEEDS; seed++) {
            tryHours(n, seed);
            int hurt = Integer.bitCount(draft.people.hurt);
            fewestHurt = Math.min(fewestHurt, hurt);
            mostHurt = Math.max(mostHurt, hurt);
        }
        return most ? mostHurt : fewestHurt;
    }

    private void goAhead(int n) {
        draft.copyFrom(now);
        for (int i = 0; i < n; i++) {
            draft.passHour(rule, false);
        }
    }

    private void tryHours(int n, int seed) {
        draft.copyFrom(now);
        draft.seed = seed;
        for (int i = 0; i < n; i++) {
            draft.passHour(rule, true);
        }
    }

    // ---- THE LOG, what is UNDONE, THE IMAGE

    public int led(int stone, boolean hour) throws IndexOutOfBoundsException {
        needStone(stone);
        return hour ? now.book.latestHourOf(stone) : now.book.rowsOf(stone);
    }

    public int log(int ago, int what) throws NoSuchElementException {
        if (what < 0 || what >= Book.CELLS) {
            throw new NoSuchElementException("a row has no such what");
        }
        return now.book.cell(ago, what);
    }

    public boolean undo() {
        if (rememberedCount <= 0) {
            return false;
        }
        rememberedCount--;
        now.copyFrom(remembered[(rememberedFrom + rememberedCount) % MOST_REMEMBERED]);
        return true;
    }

    public void image() {
        kept.copyFrom(now);
        keptRule.copyFrom(rule);
        isKept = true;
    }

    public boolean back() {
        if (!isKept) {
            return false;
        }
        now.copyFrom(kept);
        rule.copyFrom(keptRule);
        forgetActs();
        return true;
    }

    private void remember() {
        if (rememberedCount == MOST_REMEMBERED) {
            rememberedFrom = (rememberedFrom + 1) % MOST_REMEMBERED;
            rememberedCount--;
        }
        remembered[(rememberedFrom + rememberedCount) % MOST_REMEMBERED].copyFrom(now);
        rememberedCount++;
    }

    private void forgetActs() {
        rememberedCount = 0;
    }

    // ---- what a call needs

    private void needPerson(int person) {
        if (!now.people.has(person)) {
            throw new IndexOutOfBoundsException("there is no such person");
        }
    }

    private void needStone(int stone) {
        if (stone < 0 || stone >= now.stones.count) {
            throw new IndexOutOfBoundsException("there is no such stone");
        }
    }

    private void needPlace(int place) {
        if (place < 0 || place >= PLACES) {
            throw new IndexOutOfBoundsException("there is no such place");
        }
    }

    private void needAhead(int n) {
        if (n < 0 || n > MOST_AHEAD) {
            throw new IllegalArgumentException("so many hours are none");
        }
    }

    private void needTried(int n) {
        if (n < 0 || n > MOST_TRIED) {
            throw new IllegalArgumentException("so many hours are none");
        }
    }

    /** The words of both kinds of texts. */
    private enum Word {
        PERSON("person", NONE), GOAL("goal", NONE), AT("at", NONE),
        STONE("stone", NONE), OF("of", NONE), TO("to", NONE), WORN_WORD("worn", NONE), BY("by", NONE),
        PORCH("porch", NONE), LIMIT("limit", NONE),
        TIRE("tire", NONE), EARN("earn", NONE), HURT("hurt", NONE),
        IF("if", NONE), OR("or", NONE), AND("and", NONE), NOT("not", NONE),
        THERE("there", NONE), LIGHT("light", NONE),
        WHO("who", Law.WHO), LOAD("load", Law.LOAD), BACK("back", Law.BACK), PLACE("place", Law.PLACE),
        SLOPE("slope", Law.SLOPE), TIRED("tired", Law.TIRED), HOUR("hour", Law.HOUR);

        final String text;
        /** How a PART of a SUM is put in a Law's code; NONE for words that are no PART. */
        final int part;

        Word(String text, int part) {
            this.text = text;
            this.part = part;
        }
    }

    /** The TAPE's bytes, and the tokens that a text on it is cut into. */
    private static final class Tape {
        static final int MOST = 400;
        private static final int FED_AT_ONCE = 20;
        private static final int MOST_DIGITS = 3;
        private static final int BLANK = 0;
        private static final int SIGN = 1;
        private static final int DIGITS = 2;
        private static final int LETTERS = 3;
        private static final int END = 4;
        private static final Word[] WORDS = Word.values();

        final byte[] bytes = new byte[MOST];
        int length = 0;
        private int tokens = 0;
        private int at = 0;
        private final int[] kind = new int[MOST + 1];
        private final int[] begin = new int[MOST + 1];
        private final int[] size = new int[MOST + 1];
        /** Of each token the word that it is; null, if it is none. */
        private final Word[] word = new Word[MOST + 1];

        boolean hasRoomForTwenty() {
            return length + FED_AT_ONCE <= MOST;
        }

        void addNumber(int number) {
            for (int shift = 24; shift >= 0; shift -= 8) {
                if (length < MOST) {
                    bytes[length] = (byte) (number >> shift);
                    length++;
                }
            }
        }

        int byteAt(int i) {
            return i >= 0 && i < length ? bytes[i] & 255 : NONE;
        }

        void cutIntoTokens() {
            tokens = 0;
            at = 0;
            int before = BLANK;
            for (int i = 0; i < length; i++) {
                int found = kindOf(bytes[i]);
                if (tokens > 0 && found == before && (found == DIGITS || found == LETTERS)) {
                    size[tokens - 1]++;
                } else if (found != BLANK) {
                    addToken(found, i);
                }
                before = found;
            }
            addToken(END, length);
            for (int t = 0; t < tokens; t++) {
                word[t] = kind[t] == LETTERS ? wordOf(begin[t], size[t]) : null;
            }
        }

        private static int kindOf(byte b) {
            if (b == ' ') {
                return BLANK;
            }
            if (b >= '0' && b <= '9') {
                return DIGITS;
            }
            return b >= 'a' && b <= 'z' ? LETTERS : SIGN;
        }

        private void addToken(int found, int first) {
            if (tokens < kind.length) {
                kind[tokens] = found;
                begin[tokens] = first;
                size[tokens] = 1;
                tokens++;
            }
        }

        private Word wordOf(int first, int letters) {
            for (int w = 0; w < WORDS.length; w++) {
                if (WORDS[w].text.length() == letters && stands(WORDS[w].text, first)) {
                    return WORDS[w];
                }
            }
            return null;
        }

        private boolean stands(String text, int first) {
            for (int i = 0; i < text.length(); i++) {
                if (byteAt(first + i) != text.charAt(i)) {
                    return false;
                }
            }
            return true;
        }

        boolean isAtEnd() {
            return kind[at] == END;
        }

        /** Where the thing begins that is to be taken next: the text's length at its end. */
        int beginOfToken() {
            return begin[at];
        }

        boolean isWord(Word wanted) {
            return word[at] == wanted;
        }

        boolean takeWord(Word wanted) {
            if (word[at] != wanted) {
                return false;
            }
            at++;
            return true;
        }

        boolean isSign(char wanted) {
            return kind[at] == SIGN && bytes[begin[at]] == wanted;
        }

        boolean takeSign(char wanted) {
            if (!isSign(wanted)) {
                return false;
            }
            at++;
            return true;
        }

        /** The number that comes next; NONE, if none does, or one of too many digits. */
        int numberNext() {
            if (kind[at] != DIGITS || size[at] > MOST_DIGITS) {
                return NONE;
            }
            int number = 0;
            for (int i = begin[at]; i < begin[at] + size[at]; i++) {
                number = 10 * number + bytes[i] - '0';
            }
            return number;
        }

        /** The number from least to most that comes next; NONE, if none such does: then nothing is taken. */
        int takeNumber(int least, int most) {
            int number = numberNext();
            if (number == NONE || number < least || number > most) {
                return NONE;
            }
            at++;
            return number;
        }

        /** The code of the word of a PART that comes next; NONE, if none does: then nothing is taken. */
        int takePartWord() {
            Word next = word[at];
            if (next == null || next.part == NONE) {
                return NONE;
            }
            at++;
            return next.part;
        }
    }

    /** PEOPLE, by their numbers. */
    private static final class People {
        int count = 0;
        final int[] purse = new int[MOST_PEOPLE];
        final int[] back = new int[MOST_PEOPLE];
        final int[] place = new int[MOST_PEOPLE];
        final int[] goal = new int[MOST_PEOPLE];
        final int[] tired = new int[MOST_PEOPLE];
        /** Who is HURT, as bits. */
        int hurt = 0;

        void copyFrom(People other) {
            count = other.count;
            hurt = other.hurt;
            System.arraycopy(other.purse, 0, purse, 0, MOST_PEOPLE);
            System.arraycopy(other.back, 0, back, 0, MOST_PEOPLE);
            System.arraycopy(other.place, 0, place, 0, MOST_PEOPLE);
            System.arraycopy(other.goal, 0, goal, 0, MOST_PEOPLE);
            System.arraycopy(other.tired, 0, tired, 0, MOST_PEOPLE);
        }

        boolean has(int person) {
            return person >= 0 && person < count;
        }

        void addNew(int itsPurse, int itsBack, int itsPlace, int itsGoal) {
            if (count < MOST_PEOPLE) {
                purse[count] = itsPurse;
                back[count] = itsBack;
                place[count] = itsPlace;
                goal[count] = itsGoal;
                tired[count] = 0;
                heal(count);
                count++;
            }
        }

        void gain(int person, int much) {
            purse[person] = Math.min(MOST_PURSE, purse[person] + much);
        }

        void move(int from, int to, int much) {
            purse[from] -= much;
            gain(to, much);
        }

        int bitsAt(int where) {
            int bits = 0;
            for (int p = 0; p < count; p++) {
                if (place[p] == where) {
                    bits |= 1 << p;
                }
            }
            return bits;
        }

        boolean isHurt(int person) {
            return (hurt >> person & 1) == 1;
        }

        void harm(int person) {
            hurt |= 1 << person;
        }

        void heal(int person) {
            hurt &= ~(1 << person);
        }

        int allPurses() {
            int all = 0;
            for (int p = 0; p < count; p++) {
                all += purse[p];
            }
            return all;
        }
    }

    /** STONES, by their numbers; the holder is the BEARER of a worn one, the PLACE of one that is set down. */
    private static final class Stones {
        int count = 0;
        final int[] debtor = new int[MOST_STONES];
        final int[] lender = new int[MOST_STONES];
        final int[] weight = new int[MOST_STONES];
        final int[] state = new int[MOST_STONES];
        final int[] holder = new int[MOST_STONES];

        void copyFrom(Stones other) {
            count = other.count;
            System.arraycopy(other.debtor, 0, debtor, 0, MOST_STONES);
            System.arraycopy(other.lender, 0, lender, 0, MOST_STONES);
            System.arraycopy(other.weight, 0, weight, 0, MOST_STONES);
            System.arraycopy(other.state, 0, state, 0, MOST_STONES);
            System.arraycopy(other.holder, 0, holder, 0, MOST_STONES);
        }

        boolean isFull() {
            return count >= MOST_STONES;
        }

        /** The new STONE's number; NONE, if there are too many. */
        int addNew(int itsWeight, int itsDebtor, int itsLender, int itsBearer) {
            if (isFull()) {
                return NONE;
            }
            weight[count] = itsWeight;
            debtor[count] = itsDebtor;
            lender[count] = itsLender;
            state[count] = WORN;
            holder[count] = itsBearer;
            count++;
            return count - 1;
        }

        int breakInTwo(int stone) {
            int half = weight[stone] / 2;
            int other = addNew(half, debtor[stone], lender[stone], holder[stone]);
            if (other != NONE) {
                state[other] = state[stone];
                weight[stone] -= half;
            }
            return other;
        }

        int bearer(int stone) {
            return state[stone] == WORN ? holder[stone] : NONE;
        }

        int wornBy(int person) {
            int bits = 0;
            for (int s = 0; s < count; s++) {
                if (bearer(s) == person) {
                    bits |= 1 << s;
                }
            }
            return bits;
        }

        int wornForOthersBy(int person) {
            int bits = 0;
            for (int s = 0; s < count; s++) {
                if (bearer(s) == person && debtor[s] != person) {
                    bits |= 1 << s;
                }
            }
            return bits;
        }

        int owedBitsOf(int person) {
            int bits = 0;
            for (int s = 0; s < count; s++) {
                if (state[s] != PAID && debtor[s] == person) {
                    bits |= 1 << s;
                }
            }
            return bits;
        }

        int laidAt(int place) {
            int bits = 0;
            for (int s = 0; s < count; s++) {
                if (state[s] == LAID && holder[s] == place) {
                    bits |= 1 << s;
                }
            }
            return bits;
        }

        int bitsOfState(int wanted) {
            int bits = 0;
            for (int s = 0; s < count; s++) {
                if (state[s] == wanted) {
                    bits |= 1 << s;
                }
            }
            return bits;
        }

        int weightOf(int set) {
            int all = 0;
            for (int s = 0; s < count; s++) {
                if ((set >> s & 1) == 1) {
                    all += weight[s];
                }
            }
            return all;
        }

        int load(int person) {
            int all = 0;
            for (int s = 0; s < count; s++) {
                if (state[s] == WORN && holder[s] == person) {
                    all += weight[s];
                }
            }
            return all;
        }

        int owedBy(int person) {
            return weightOf(owedBitsOf(person));
        }

        int dueTo(int person) {
            int all = 0;
            for (int s = 0; s < count; s++) {
                if (state[s] != PAID && lender[s] == person) {
                    all += weight[s];
                }
            }
            return all;
        }

        int weightNotPaid() {
            return weightOf(bitsOfState(WORN) | bitsOfState(LAID));
        }

        void growGravel() {
            for (int s = 0; s < count; s++) {
                if (state[s] != PAID) {
                    weight[s] = Math.min(MOST_WEIGHT, weight[s] + 1);
                }
            }
        }

        /** All whom one comes to from a PERSON by LENDERS, and that PERSON, as bits. */
        int lendersFrom(int person) {
            int reached = 1 << person;
            // Each round but the last comes to one more, so as many rounds as PEOPLE are enough.
            for (int round = 0; round < MOST_PEOPLE; round++) {
                for (int s = 0; s < count; s++) {
                    if (state[s] != PAID && (reached >> debtor[s] & 1) == 1) {
                        reached |= 1 << lender[s];
                    }
                }
            }
            return reached;
        }

        int heaviestHeap() {
            int best = NONE;
            int most = 0;
            for (int place = 0; place < PLACES; place++) {
                int heaped = weightOf(laidAt(place));
                if (heaped > most) {
                    most = heaped;
                    best = place;
                }
            }
            return best;
        }
    }

    /** THE LOG: rows of four cells (HOUR, STONE, what it was, WEIGHT), the oldest first. */
    private static final class Book {
        static final int CELLS = 4;
        static final int LENT = 0;
        static final int PAID_OFF = 1;
        static final int BROKEN = 2;
        static final int PASSED = 3;
        static final int SET_DOWN = 4;
        static final int LIFTED = 5;
        private static final int MOST_ROWS = 60;

        int rows = 0;
        private final int[] cells = new int[MOST_ROWS * CELLS];

        void copyFrom(Book other) {
            rows = other.rows;
            System.arraycopy(other.cells, 0, cells, 0, cells.length);
        }

        void addRow(int hour, int stone, int act, int weight) {
            if (rows >= MOST_ROWS) {
                System.arraycopy(cells, CELLS, cells, 0, cells.length - CELLS);
                rows = MOST_ROWS - 1;
            }
            int at = rows * CELLS;
            cells[at] = hour;
            cells[at + 1] = stone;
            cells[at + 2] = act;
            cells[at + 3] = weight;
            rows++;
        }

        int cell(int ago, int what) {
            if (ago < 0 || ago >= rows || what < 0 || what >= CELLS) {
                return NONE;
            }
            return cells[(rows - 1 - ago) * CELLS + what];
        }

        int rowsOf(int stone) {
            int found = 0;
            for (int ago = 0; ago < rows; ago++) {
                if (cell(ago, 1) == stone) {
                    found++;
                }
            }
            return found;
        }

        int latestHourOf(int stone) {
            for (int ago = 0; ago < rows; ago++) {
                if (cell(ago, 1) == stone) {
                    return cell(ago, 0);
                }
            }
            return NONE;
        }
    }

    /** All that goes back when an ACT is UNDONE: everything but THE LAW, which no ACT changes. */
    private static final class Valley {
        private static final int FIRST_LIMIT = 40;
        private static final int HUNDRED = 100;

        final People people = new People();
        final Stones stones = new Stones();
        final Book book = new Book();
        final int[] slope = new int[PLACES];
        /** PLACES with a PORCH, as bits. */
        int porches = 0;
        int limit = FIRST_LIMIT;
        int hour = 0;
        int seed = 1;
        int texts = 0;

        void copyFrom(Valley other) {
            people.copyFrom(other.people);
            stones.copyFrom(other.stones);
            book.copyFrom(other.book);
            System.arraycopy(other.slope, 0, slope, 0, PLACES);
            porches = other.porches;
            limit = other.limit;
            hour = other.hour;
            seed = other.seed;
            texts = other.texts;
        }

        void writeRow(int stone, int act) {
            book.addRow(hour, stone, act, stones.weight[stone]);
        }

        boolean hasPorch(int place) {
            return (porches >> place & 1) == 1;
        }

        boolean isBowed(int person) {
            return people.isHurt(person) || people.tired[person] == MOST_TIRED
                    || stones.load(person) > people.back[person];
        }

        int firstBowed() {
            for (int p = 0; p < people.count; p++) {
                if (isBowed(p)) {
                    return p;
                }
            }
            return NONE;
        }

        int placeOfStone(int stone) {
            switch (stones.state[stone]) {
                case WORN: return people.place[stones.holder[stone]];
                case LAID: return stones.holder[stone];
                default: return NONE;
            }
        }

        boolean mayBeLaid(int stone) {
            if (stones.state[stone] != WORN) {
                return false;
            }
            int place = placeOfStone(stone);
            return hasPorch(place) || place == people.place[stones.lender[stone]];
        }

        // ---- AN HOUR

        /** How many got HURT in it; nobody does without draws. */
        int passHour(Law rule, boolean draws) {
            for (int p = 0; p < people.count; p++) {
                earnOrWalk(p, rule);
            }
            int gotHurt = 0;
            for (int p = 0; p < people.count; p++) {
                if (!people.isHurt(p) && tireAndDraw(p, rule, draws)) {
                    people.harm(p);
                    gotHurt++;
                }
            }
            endHour();
            return gotHurt;
        }

        private void earnOrWalk(int person, Law rule) {
            int here = people.place[person];
            int target = people.goal[person];
            if (here == target) {
                people.gain(person, rule.amountFor(Law.EARNS, this, person));
            } else if (!isBowed(person)) {
                int next = here < target ? here + 1 : here - 1;
                if (mayStep(here, next, stones.load(person))) {
                    people.place[person] = next;
                }
            }
        }

        private boolean tireAndDraw(int person, Law rule, boolean draws) {
            int more = rule.amountFor(Law.TIRES, this, person);
            people.tired[person] = Math.min(MOST_TIRED, people.tired[person] + more);
            return draws && drawn() % HUNDRED < rule.amountFor(Law.HURTS, this, person);
        }

        private int drawn() {
            seed = 1103515245 * seed + 12345;
            return seed >>> 16 & 0x7fff;
        }

        private void endHour() {
            hour = Math.min(MOST_HOUR, hour + 1);
            if (hour % DAY == 0) {
                stones.growGravel();
                for (int p = 0; p < people.count; p++) {
                    people.tired[p] /= 2;
                }
            }
        }

        // ---- ways

        private boolean mayStep(int from, int to, int load) {
            return load <= limit || Math.min(from, to) != NEAR_BRIDGE_END;
        }

        int hoursOfWay(int person, int target) {
            int load = stones.load(person);
            int here = people.place[person];
            int all = 0;
            for (int steps = 0; steps < PLACES && here != target; steps++) {
                int next = here < target ? here + 1 : here - 1;
                if (!mayStep(here, next, load)) {
                    return NONE;
                }
                here = next;
                all += 1 + load / 10 * slope[here];
            }
            return all;
        }

        int soonestTo(int target) {
            int best = NONE;
            int least = 0;
            for (int p = 0; p < people.count; p++) {
                int takes = isBowed(p) ? NONE : hoursOfWay(p, target);
                if (takes != NONE && (best == NONE || takes < least)) {
                    least = takes;
                    best = p;
                }
            }
            return best;
        }

        int meetingPlace() {
            int best = NONE;
            int least = 0;
            for (int place = 0; place < PLACES && people.count > 0; place++) {
                int takes = hoursOfAll(place);
                if (takes != NONE && (best == NONE || takes < least)) {
                    least = takes;
                    best = place;
                }
            }
            return best;
        }

        private int hoursOfAll(int target) {
            int all = 0;
            for (int p = 0; p < people.count; p++) {
                int takes = hoursOfWay(p, target);
                if (takes == NONE) {
                    return NONE;
                }
                all += takes;
            }
            return all;
        }

        // ---- loads

        int pairsOfLikeLoad() {
            int found = 0;
            for (int p = 0; p < people.count; p++) {
                for (int other = p + 1; other < people.count; other++) {
                    if (stones.load(p) == stones.load(other)) {
                        found++;
                    }
                }
            }
            return found;
        }

        int mostLoaded() {
            int best = NONE;
            int most = NONE;
            for (int p = 0; p < people.count; p++) {
                int load = stones.load(p);
                if (load > most) {
                    most = load;
                    best = p;
                }
            }
            return best;
        }
    }

    /** Reads a text of THE VALLEY into a draft; where it ends early, the token that it is at is the wrong one. */
    private static final class ValleyText {
        private static final int MOST_LINES = 14;
        private static final int MOST_TOLD_PURSE = 999;
        private static final int MOST_TOLD_HOUR = 999;
        private static final int MOST_BACK = 60;
        private static final int MOST_SLOPE = 3;
        private static final int MOST_LIMIT = 99;

        static boolean readLines(Tape tape, Valley draft) {
            if (tape.isAtEnd()) {
                return true;
            }
            for (int line = 0; line < MOST_LINES; line++) {
                if (!readLine(tape, draft)) {
                    return false;
                }
                if (tape.isAtEnd()) {
                    return true;
                }
                if (!tape.takeSign(';')) {
                    return false;
                }
            }
            return false;
        }

        private static boolean readLine(Tape tape, Valley draft) {
            if (tape.isWord(Word.PERSON)) {
                return draft.people.count < MOST_PEOPLE && readPerson(tape, draft);
            }
            if (tape.isWord(Word.STONE)) {
                return !draft.stones.isFull() && readStone(tape, draft);
            }
            if (tape.takeWord(Word.SLOPE)) {
                return readSlope(tape, draft);
            }
            if (tape.takeWord(Word.PORCH)) {
                return readPorch(tape, draft);
            }
            if (tape.takeWord(Word.LIMIT)) {
                return readLimit(tape, draft);
            }
            return tape.takeWord(Word.HOUR) && readHour(tape, draft);
        }

        private static boolean readPerson(Tape tape, Valley draft) {
            tape.takeWord(Word.PERSON);
            int purse = tape.takeNumber(0, MOST_TOLD_PURSE);
            if (purse == NONE || !tape.takeWord(Word.BACK)) {
                return false;
            }
            int back = tape.takeNumber(1, MOST_BACK);
            if (back == NONE || !tape.takeWord(Word.AT)) {
                return false;
            }
            int place = tape.takeNumber(0, PLACES - 1);
            if (place == NONE) {
                return false;
            }
            int goal = place;
            if (tape.takeWord(Word.GOAL)) {
                goal = tape.takeNumber(0, PLACES - 1);
                if (goal == NONE) {
                    return false;
                }
            }
            draft.people.addNew(purse, back, place, goal);
            return true;
        }

        private static boolean readStone(Tape tape, Valley draft) {
            tape.takeWord(Word.STONE);
            int weight = tape.takeNumber(1, MOST_WEIGHT);
            if (weight == NONE || !tape.takeWord(Word.OF)) {
                return false;
            }
            int debtor = takePersonBut(NONE, tape, draft);
            if (debtor == NONE || !tape.takeWord(Word.TO)) {
                return false;
            }
            int lender = takePersonBut(debtor, tape, draft);
            if (lender == NONE) {
                return false;
            }
            int bearer = debtor;
            if (tape.takeWord(Word.WORN_WORD)) {
                bearer = tape.takeWord(Word.BY) ? takePersonBut(lender, tape, draft) : NONE;
                if (bearer == NONE) {
                    return false;
                }
            }
            draft.stones.addNew(weight, debtor, lender, bearer);
            return true;
        }

        /** The PERSON that is told next; NONE, if it is none or the one that it may not be: then nothing is taken. */
        private static int takePersonBut(int not, Tape tape, Valley draft) {
            return tape.numberNext() == not ? NONE : tape.takeNumber(0, draft.people.count - 1);
        }

        private static boolean readSlope(Tape tape, Valley draft) {
            int place = tape.takeNumber(0, PLACES - 1);
            if (place == NONE) {
                return false;
            }
            int slope = tape.takeNumber(0, MOST_SLOPE);
            if (slope == NONE) {
                return false;
            }
            draft.slope[place] = slope;
            return true;
        }

        private static boolean readPorch(Tape tape, Valley draft) {
            int place = tape.takeNumber(0, PLACES - 1);
            if (place == NONE) {
                return false;
            }
            draft.porches |= 1 << place;
            return true;
        }

        private static boolean readLimit(Tape tape, Valley draft) {
            int limit = tape.takeNumber(1, MOST_LIMIT);
            if (limit == NONE) {
                return false;
            }
            draft.limit = limit;
            return true;
        }

        private static boolean readHour(Tape tape, Valley draft) {
            int hour = tape.takeNumber(0, MOST_TOLD_HOUR);
            if (hour == NONE) {
                return false;
            }
            draft.hour = hour;
            return true;
        }
    }

    /** THE LAW: LINES, whose conditions are kept as code in which what is joined stands ahead of what joins. */
    private static final class Law {
        static final int TIRES = 0;
        static final int EARNS = 1;
        static final int HURTS = 2;

        /** Codes below WHO are numbers; from WHO to LIGHT they are what a PERSON has; behind these they join. */
        static final int WHO = 1000;
        static final int LOAD = 1001;
        static final int BACK = 1002;
        static final int PLACE = 1003;
        static final int SLOPE = 1004;
        static final int TIRED = 1005;
        static final int HOUR = 1006;
        static final int THERE = 1007;
        static final int LIGHT = 1008;
        static final int NOT = 1009;
        static final int ADD = 1010;
        static final int LESS = 1011;
        static final int MORE = 1012;
        static final int AND = 1013;
        static final int OR = 1014;

        static final int MOST_LINES = 12;
        private static final int MOST_HURTS = 100;
        private static final int MOST_DEEP = 64;

        boolean isTold = false;
        int lines = 0;
        private int codes = 0;
        private final int[] kind = new int[MOST_LINES];
        private final int[] amount = new int[MOST_LINES];
        private final int[] from = new int[MOST_LINES];
        private final int[] code = new int[Tape.MOST];
        private final int[] values = new int[LIGHT - WHO + 1];
        private final int[] stack = new int[MOST_DEEP];

        void copyFrom(Law other) {
            isTold = other.isTold;
            lines = other.lines;
            codes = other.codes;
            System.arraycopy(other.kind, 0, kind, 0, MOST_LINES);
            System.arraycopy(other.amount, 0, amount, 0, MOST_LINES);
            System.arraycopy(other.from, 0, from, 0, MOST_LINES);
            System.arraycopy(other.code, 0, code, 0, code.length);
        }

        void tellAnew() {
            isTold = true;
            lines = 0;
            codes = 0;
        }

        void openLine(int itsKind, int itsAmount) {
            if (lines < MOST_LINES) {
                kind[lines] = itsKind;
                amount[lines] = itsAmount;
                from[lines] = codes;
                lines++;
            }
        }

        void addCode(int next) {
            if (codes < code.length) {
                code[codes] = next;
                codes++;
            }
        }

        int amountFor(int what, Valley valley, int person) {
            if (!isTold) {
                return amountWithoutText(what, valley.stones.load(person), valley.people.back[person]);
            }
            fillValues(valley, person);
            int all = 0;
            for (int line = 0; line < lines; line++) {
                if (kind[line] == what && holds(line)) {
                    all += amount[line];
                }
            }
            return what == HURTS ? Math.min(MOST_HURTS, all) : all;
        }

        private static int amountWithoutText(int what, int load, int back) {
            if (what == TIRES) {
                return load / 4;
            }
            return what == EARNS ? Math.max(0, 10 - load / 4) : Math.max(0, load - back);
        }

        private void fillValues(Valley valley, int person) {
            int place = valley.people.place[person];
            int load = valley.stones.load(person);
            values[0] = person;
            values[LOAD - WHO] = load;
            values[BACK - WHO] = valley.people.back[person];
            values[PLACE - WHO] = place;
            values[SLOPE - WHO] = valley.slope[place];
            values[TIRED - WHO] = valley.people.tired[person];
            values[HOUR - WHO] = valley.hour % DAY;
            values[THERE - WHO] = place == valley.people.goal[person] ? 1 : 0;
            values[LIGHT - WHO] = load == 0 ? 1 : 0;
        }

        /** A LINE without a condition has no code, and always holds. */
        private boolean holds(int line) {
            int until = line + 1 < lines ? from[line + 1] : codes;
            int top = 0;
            for (int i = from[line]; i < until; i++) {
                int next = code[i];
                if (next <= LIGHT && top < MOST_DEEP) {
                    stack[top] = next < WHO ? next : values[next - WHO];
                    top++;
                } else if (next == NOT && top >= 1) {
                    stack[top - 1] = 1 - stack[top - 1];
                } else if (next > NOT && top >= 2) {
                    top--;
                    stack[top - 1] = joined(next, stack[top - 1], stack[top]);
                }
            }
            return top == 0 || stack[0] != 0;
        }

        private static int joined(int join, int left, int right) {
            switch (join) {
                case ADD: return left + right;
                case LESS: return left < right ? 1 : 0;
                case MORE: return left > right ? 1 : 0;
                case AND: return left & right;
                default: return left | right;
            }
        }
    }

    /** Reads a text of THE LAW; where it ends early, the token that it is at is the wrong one. */
    private static final class LawText {
        private static final int MOST_NUMBER = 999;
        private static final int MOST_AMOUNT = 99;
        private static final int MOST_WITHIN = 6;
        /** Each level of ( has an or, an and, and what opened it: far more than seven levels need. */
        private static final int MOST_OPEN = 64;
        private static final int BRACKET = 0;

        /** What waits for its end: brackets, and not, and, or by their codes. */
        private final int[] open = new int[MOST_OPEN];
        private int top = 0;
        private int deep = 0;
        private int brackets = 0;

        boolean readLines(Tape tape, Law draft) {
            draft.tellAnew();
            if (tape.isAtEnd()) {
                return true;
            }
            for (int line = 0; line < Law.MOST_LINES; line++) {
                if (!readLine(tape, draft)) {
                    return false;
                }
                if (tape.isAtEnd()) {
                    return true;
                }
                if (!tape.takeSign(';')) {
                    return false;
                }
            }
            return false;
        }

        private boolean readLine(Tape tape, Law draft) {
            int kind = takeKind(tape);
            if (kind == NONE) {
                return false;
            }
            int amount = tape.takeNumber(0, MOST_AMOUNT);
            if (amount == NONE) {
                return false;
            }
            draft.openLine(kind, amount);
            return !tape.takeWord(Word.IF) || readCondition(tape, draft);
        }

        private static int takeKind(Tape tape) {
            if (tape.takeWord(Word.TIRE)) {
                return Law.TIRES;
            }
            if (tape.takeWord(Word.EARN)) {
                return Law.EARNS;
            }
            return tape.takeWord(Word.HURT) ? Law.HURTS : NONE;
        }

        private boolean readCondition(Tape tape, Law draft) {
            top = 0;
            deep = 0;
            brackets = 0;
            // Each round takes an ATOM, so there are fewer rounds than bytes.
            for (int round = 0; round < Tape.MOST; round++) {
                if (!readOpeners(tape) || !readAtom(tape, draft)) {
                    return false;
                }
                closeNots(draft);
                closeBrackets(tape, draft);
                if (tape.takeWord(Word.AND)) {
                    closeJoins(draft, Law.AND);
                    push(Law.AND);
                } else if (tape.takeWord(Word.OR)) {
                    closeJoins(draft, Law.OR);
                    push(Law.OR);
                } else {
                    closeJoins(draft, Law.OR);
                    return brackets == 0;
                }
            }
            return false;
        }

        private boolean readOpeners(Tape tape) {
            for (int round = 0; round <= MOST_WITHIN; round++) {
                boolean isNot = tape.isWord(Word.NOT);
                if (!isNot && !tape.isSign('(')) {
                    return true;
                }
                if (deep >= MOST_WITHIN) {
                    return false;
                }
                deep++;
                if (isNot) {
                    tape.takeWord(Word.NOT);
                    push(Law.NOT);
                } else {
                    tape.takeSign('(');
                    push(BRACKET);
                    brackets++;
                }
            }
            return false;
        }

        private boolean readAtom(Tape tape, Law draft) {
            if (tape.takeWord(Word.THERE)) {
                draft.addCode(Law.THERE);
                return true;
            }
            if (tape.takeWord(Word.LIGHT)) {
                draft.addCode(Law.LIGHT);
                return true;
            }
            if (!readSum(tape, draft)) {
                return false;
            }
            boolean isLess = tape.takeSign('<');
            if (!isLess && !tape.takeSign('>') || !readSum(tape, draft)) {
                return false;
            }
            draft.addCode(isLess ? Law.LESS : Law.MORE);
            return true;
        }

        private static boolean readSum(Tape tape, Law draft) {
            // Each round takes a PART, so there are fewer rounds than bytes.
            for (int round = 0; round < Tape.MOST; round++) {
                int part = tape.takeNumber(0, MOST_NUMBER);
                if (part == NONE) {
                    part = tape.takePartWord();
                }
                if (part == NONE) {
                    return false;
                }
                draft.addCode(part);
                if (round > 0) {
                    draft.addCode(Law.ADD);
                }
                if (!tape.takeSign('+')) {
                    return true;
                }
            }
            return false;
        }

        private void push(int opened) {
            if (top < MOST_OPEN) {
                open[top] = opened;
                top++;
            }
        }

        private boolean isOnTop(int opened) {
            return top > 0 && open[top - 1] == opened;
        }

        private void closeNots(Law draft) {
            for (int round = 0; round < MOST_WITHIN && isOnTop(Law.NOT); round++) {
                draft.addCode(Law.NOT);
                top--;
                deep--;
            }
        }

        /** Ends the ands, and the ors too, if it is an or that comes (or an end), up to the bracket they are in. */
        private void closeJoins(Law draft, int coming) {
            for (int round = 0; round < MOST_OPEN; round++) {
                if (isOnTop(Law.AND)) {
                    draft.addCode(Law.AND);
                } else if (isOnTop(Law.OR) && coming == Law.OR) {
                    draft.addCode(Law.OR);
                } else {
                    return;
                }
                top--;
            }
        }

        private void closeBrackets(Tape tape, Law draft) {
            for (int round = 0; round < MOST_WITHIN && brackets > 0 && tape.takeSign(')'); round++) {
                closeJoins(draft, Law.OR);
                top--;
                deep--;
                brackets--;
                closeNots(draft);
            }
        }
    }

    /** What is chosen from many: sets to put off and to pay, shares, goes, and what two would choose unseen. */
    private static final class Choices {
        private static final int RUNNING_COSTS = 10;

        private final int[] there = new int[MOST_PEOPLE];
        private final int[] loads = new int[MOST_PEOPLE];
        private int thereCount = 0;
        private final int[] weights = new int[MOST_STONES];
        private final int[] given = new int[MOST_STONES];
        private final int[] best = new int[MOST_STONES];
        private int stoneCount = 0;
        private int least = 0;
        private int bound = 0;
        private final int[] fewest = new int[1 << MOST_PEOPLE];
        private final int[] together = new int[1 << MOST_PEOPLE];

        static int toPutOff(Valley valley, int person) {
            int worn = valley.stones.wornBy(person);
            int load = valley.stones.weightOf(worn);
            int most = Math.min(valley.limit, valley.people.back[person]);
            int chosen = worn;
            for (int set = 0; set < worn; set++) {
                if ((set & ~worn) == 0 && Integer.bitCount(set) < Integer.bitCount(chosen)
                        && load - valley.stones.weightOf(set) <= most) {
                    chosen = set;
                }
            }
            return chosen;
        }

        static int toPay(Valley valley, int person) {
            int owed = valley.stones.owedBitsOf(person);
            int chosen = 0;
            int most = 0;
            for (int set = 0; set <= owed; set++) {
                int much = (set & ~owed) == 0 ? valley.stones.weightOf(set) : 0;
                if (much > most && much <= valley.people.purse[person]) {
                    most = much;
                    chosen = set;
                }
            }
            return chosen;
        }

        // ---- SHARE

        void dealOut(Valley valley, int place) {
            thereCount = 0;
            stoneCount = 0;
            int worn = 0;
            for (int p = 0; p < valley.people.count; p++) {
                if (valley.people.place[p] == place) {
                    there[thereCount] = p;
                    loads[thereCount] = 0;
                    thereCount++;
                    worn |= valley.stones.wornBy(p);
                }
            }
            bound = 0;
            for (int s = 0; s < valley.stones.count; s++) {
                if ((worn >> s & 1) == 1) {
                    weights[stoneCount] = valley.stones.weight[s];
                    bound = Math.max(bound, valley.stones.weight[s]);
                    stoneCount++;
                }
            }
            least = NONE;
            if (thereCount > 0) {
                int even = (valley.stones.weightOf(worn) + thereCount - 1) / thereCount;
                bound = Math.max(bound, even);
                deal(0, 0);
            }
        }

        /** Tries the ways in their order, and keeps the first of the least; the depth is the STONE. */
        private void deal(int stone, int greatest) {
            if (least != NONE && (greatest >= least || least <= bound)) {
                return;
            }
            if (stone >= stoneCount || stone >= MOST_STONES) {
                least = greatest;
                System.arraycopy(given, 0, best, 0, MOST_STONES);
                return;
            }
            for (int i = 0; i < thereCount; i++) {
                if (!isLikeAnEarlierOne(i)) {
                    loads[i] += weights[stone];
                    given[stone] = there[i];
                    deal(stone + 1, Math.max(greatest, loads[i]));
                    loads[i] -= weights[stone];
                }
            }
        }

        /** A way by this one would be as good as one by the earlier one, which comes first. */
        private boolean isLikeAnEarlierOne(int i) {
            for (int earlier = 0; earlier < i; earlier++) {
                if (loads[earlier] == loads[i]) {
                    return true;
                }
            }
            return false;
        }

        int leastGreatest() {
            return least;
        }

        int takerOf(int k) {
            return least != NONE && k >= 0 && k < stoneCount ? best[k] : NONE;
        }

        // ---- GOES

        int fewestGoes(Valley valley) {
            int all = (1 << valley.people.count) - 1;
            fewest[0] = 0;
            together[0] = 0;
            for (int set = 1; set <= all; set++) {
                int lowest = Integer.numberOfTrailingZeros(set);
                together[set] = together[set & (set - 1)] + valley.stones.load(lowest);
                fewest[set] = fewestGoesOf(set, valley.limit);
            }
            return fewest[all];
        }

        /** All lesser sets are known by then. */
        private int fewestGoesOf(int set, int limit) {
            int found = NONE;
            for (int go = 1; go <= set; go++) {
                if ((go & ~set) == 0 && together[go] <= limit) {
                    int others = fewest[set & ~go];
                    if (others != NONE && (found == NONE || others + 1 < found)) {
                        found = others + 1;
                    }
                }
            }
            return found;
        }

        // ---- RESTS

        static int steadyChoices(int room, int w) {
            int bits = 0;
            for (int choice = 0; choice < 4; choice++) {
                int asked = choice / 2 == 0 ? w : w / 2;
                int askedElse = choice / 2 == 0 ? w / 2 : w;
                boolean runs = choice % 2 == 1;
                if (lenderHas(asked, runs) >= lenderHas(askedElse, runs)
                        && debtorHas(room, asked, runs) >= debtorHas(room, asked, !runs)) {
                    bits |= 1 << choice;
                }
            }
            return bits;
        }

        private static int lenderHas(int asked, boolean runs) {
            return runs ? -asked : asked;
        }

        private static int debtorHas(int room, int asked, boolean runs) {
            return runs ? -RUNNING_COSTS : room - asked;
        }
    }

    /** SCALES: the cases (a STONE that is hollow, or none) that can be by the rows that are told. */
    private static final class Scales {
        private static final int MOST_ROWS = 12;
        private static final int ROW = 3;
        private static final int LEFT = 0;
        private static final int NEITHER = 1;
        private static final int RIGHT = 2;
        /** The case that no STONE is hollow stands behind those of the STONES. */
        private static final int NO_STONE = MOST_STONES;

        private final int[] rows = new int[MOST_ROWS * ROW];
        private int rowCount = 0;
        private int cases = 0;

        boolean readRows(Tape tape, Valley valley) {
            rowCount = 0;
            if (tape.length > rows.length || tape.length % ROW != 0) {
                return false;
            }
            for (int i = 0; i < tape.length; i++) {
                rows[i] = tape.byteAt(i);
            }
            rowCount = tape.length / ROW;
            for (int row = 0; row < rowCount; row++) {
                if (!isRight(row, valley)) {
                    return false;
                }
            }
            return true;
        }

        private boolean isRight(int row, Valley valley) {
            int left = rows[row * ROW];
            int right = rows[row * ROW + 1];
            return valley.people.has(left) && valley.people.has(right) && left != right
                    && rows[row * ROW + 2] <= RIGHT;
        }

        void findCases(Valley valley) {
            cases = 0;
            for (int one = 0; one <= NO_STONE; one++) {
                if (isCase(one, valley) && fitsAllRows(one, valley)) {
                    cases |= 1 << one;
                }
            }
        }

        private static boolean isCase(int one, Valley valley) {
            return one == NO_STONE || one < valley.stones.count && valley.stones.state[one] == WORN;
        }

        private boolean fitsAllRows(int one, Valley valley) {
            for (int row = 0; row < rowCount; row++) {
                if (sinks(one, valley, rows[row * ROW], rows[row * ROW + 1]) != rows[row * ROW + 2]) {
                    return false;
                }
            }
            return true;
        }

        private static int sinks(int one, Valley valley, int left, int right) {
            int more = scaleLoad(one, valley, left) - scaleLoad(one, valley, right);
            if (more == 0) {
                return NEITHER;
            }
            return more > 0 ? LEFT : RIGHT;
        }

        private static int scaleLoad(int one, Valley valley, int person) {
            int load = valley.stones.load(person);
            if (one >= valley.stones.count || valley.stones.bearer(one) != person) {
                return load;
            }
            int weight = valley.stones.weight[one];
            return load - weight + weight / 2;
        }

        int stonesThatCanBe() {
            return cases & (1 << NO_STONE) - 1;
        }

        boolean canBeNone() {
            return (cases >> NO_STONE & 1) == 1;
        }

        int nextTwo(Valley valley) {
            int chosen = NONE;
            int least = Integer.bitCount(cases);
            if (least < 2) {
                return NONE;
            }
            for (int left = 0; left < valley.people.count; left++) {
                for (int right = left + 1; right < valley.people.count; right++) {
                    int greatest = greatestPart(valley, left, right);
                    if (chosen == NONE || greatest < least) {
                        chosen = 10 * left + right;
                        least = greatest;
                    }
                }
            }
            return chosen;
        }

        private int greatestPart(Valley valley, int left, int right) {
            int toLeft = 0;
            int toNeither = 0;
            int toRight = 0;
            for (int one = 0; one <= NO_STONE; one++) {
                if ((cases >> one & 1) == 1) {
                    int side = sinks(one, valley, left, right);
                    toLeft += side == LEFT ? 1 : 0;
                    toNeither += side == NEITHER ? 1 : 0;
                    toRight += side == RIGHT ? 1 : 0;
                }
            }
            return Math.max(toLeft, Math.max(toNeither, toRight));
        }
    }
}
