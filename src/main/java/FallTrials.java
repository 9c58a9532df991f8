import java.util.Arrays;
import java.util.NoSuchElementException;

/**
 * A house of falls on purpose. The numbered promises that it keeps stand in the
 * project's document; words in capitals here are the document's own terms.
 */
public final class FallTrials {
    public static final int NONE = -1;

    private static final int TAPE_ROOM = 700;
    private static final int FEED = 20;
    private static final int WORD_ROOM = 8;

    private static final int MACHINES = 4;
    private static final int ROWS = 10;
    private static final int FACTS = 10;
    private static final int RULES = 10;
    private static final int SENDS = 6;
    private static final int CASES = 3;
    private static final int PLACES = 3;
    private static final int MENDS = 6;
    private static final int KEPT_SETS = 8;
    private static final int TOLD_FALLS = 6;

    private static final int LAST_MOST = 6;
    private static final int LAST_FIRST = 4;
    private static final int TICKS = LAST_MOST + 1;
    private static final int CELLS = TICKS * MACHINES;
    private static final int LATER = 2;

    private static final int KINDS = 4;
    private static final int LOST = 0;
    private static final int DOWN = 1;
    private static final int AWAY = 2;
    private static final int LATE = 3;
    private static final int PURSE_ROOM = 3;
    private static final int ALL_FALLS_ROOM = 2 * LAST_MOST * (SENDS + MACHINES);
    private static final int FALLS_FOR_THREE = 60;
    private static final int RUNS_MOST = 100;
    private static final int LANES = 64;
    private static final long EVERY_LANE = -1L;
    private static final int STEPS = 1000000;

    private static final int GOOD = 0;
    private static final int IDLE = 1;
    private static final int BROKEN = 2;

    private static final int HOLDS = 0;
    private static final int FOUND = 1;
    private static final int SPENT = 2;

    private static final int UNSENT = 0;
    private static final int IN_TIME = 1;
    private static final int WORD_LOST = 2;
    private static final int WORD_LATE = 3;
    private static final int UNMET = 4;

    private static final int BY_WORD = 1000;
    private static final int BY_KEEPING = 2000;
    private static final int BY_NEXT = 3000;
    private static final int BY_NOW = 4000;
    private static final int REASONS = 2 + 2 * SENDS + RULES;

    private static final int KEEP_ROW = 0;
    private static final int SEND_AGAIN = 1;
    private static final int LEAVE_NOTS = 2;

    private static final int WRONG_FORM = 1;
    private static final int WRONG_NAME = 2;
    private static final int TOLD_AGAIN = 3;
    private static final int TOO_MANY = 5;

    private static final int NO_SUCH = 1;
    private static final int BAD_NUMBER = 2;
    private static final int NO_ROOM = 3;
    private static final int FAULTY = 4;
    private static final int NOT_SO = 5;
    private static final int NO_WAY = 6;

    private final Reader reader;
    private final Works works;
    private final Works guess;
    private final Numbers falls;
    private final Numbers nothing;
    private final Numbers fewer;
    private final Numbers toldMends;
    private final Numbers[] keptSets;
    private final Trials trials;
    private final Trace with;
    private final Trace without;
    private final int[] chain;
    private Book draft;
    private boolean hasBook;
    private int keptCount;
    private int refusal;
    private int flaw;
    private int flawPlace;

    public FallTrials() {
        draft = new Book();
        reader = new Reader(draft);
        works = new Works(new Book());
        guess = new Works(works.book);
        falls = new Numbers(TOLD_FALLS);
        nothing = new Numbers(0);
        fewer = new Numbers(TOLD_FALLS);
        toldMends = new Numbers(MENDS);
        keptSets = new Numbers[KEPT_SETS];
        for (int i = 0; i < KEPT_SETS; i++) {
            keptSets[i] = new Numbers(TOLD_FALLS);
        }
        trials = new Trials(works);
        with = new Trace();
        without = new Trace();
        chain = new int[CELLS * ROWS];
    }

    // ---- the book

    public int feed(int a, int b, int c, int d, int e) {
        if (reader.fed + FEED > TAPE_ROOM) {
            return NONE;
        }
        reader.takeNumber(a);
        reader.takeNumber(b);
        reader.takeNumber(c);
        reader.takeNumber(d);
        reader.takeNumber(e);
        return reader.fed;
    }

    public int book(int n) {
        if (n < 0 || n > reader.fed) {
            return refuse(BAD_NUMBER);
        }
        boolean whole = reader.read(n, draft);
        flaw = reader.flaw;
        flawPlace = reader.at;
        if (!whole) {
            return refuse(FAULTY);
        }
        Book old = works.book;
        works.begin(draft);
        draft = old;
        hasBook = true;
        falls.wipe();
        toldMends.wipe();
        keptCount = 0;
        trials.forget();
        return grant(works.book.rules + works.book.sends);
    }

    public int fault() {
        return flaw;
    }

    public int where() {
        return refusal == FAULTY ? flawPlace : NONE;
    }

    public boolean last(int ticks) {
        if (!hasBook) {
            return refuse(NO_SUCH) != NONE;
        }
        if (ticks < 1 || ticks > LAST_MOST) {
            return refuse(BAD_NUMBER) != NONE;
        }
        works.last = ticks;
        falls.wipe();
        keptCount = 0;
        return grant(1) == 1;
    }

    public boolean purse(int kind, int n) {
        if (!hasBook || kind < 0 || kind >= KINDS) {
            return refuse(NO_SUCH) != NONE;
        }
        if (n < 0 || n > PURSE_ROOM || trials.purse.total() - trials.purse.room[kind] + n > PURSE_ROOM) {
            return refuse(BAD_NUMBER) != NONE;
        }
        trials.purse.room[kind] = n;
        return grant(1) == 1;
    }

    // ---- falls told, runs

    public int fall(int kind, int which, int tick) {
        if (kind < 0 || kind >= KINDS || which < 0 || which >= works.book.hitBy(kind)) {
            return refuse(NO_SUCH);
        }
        if (tick < 0 || tick >= works.last) {
            return refuse(BAD_NUMBER);
        }
        int number = numberOf(kind, which, tick);
        if (falls.has(number)) {
            return refuse(NOT_SO);
        }
        if (falls.size == TOLD_FALLS) {
            return refuse(NO_ROOM);
        }
        falls.insert(number);
        return grant(falls.size);
    }

    public int clear() {
        int were = falls.size;
        falls.wipe();
        return were;
    }

    public int run() {
        if (!hasBook) {
            return refuse(NO_SUCH);
        }
        trials.play(works, falls, with);
        return grant(with.verdict);
    }

    public int there(int row, int machine, int tick) {
        int wrong = wrongPlace(row, machine, tick);
        if (wrong != 0) {
            return refuse(wrong);
        }
        trials.play(works, falls, with);
        return grant(with.isThere(row, machine, tick) ? 1 : 0);
    }

    public int reasons(int row, int machine, int tick) {
        int wrong = wrongPlace(row, machine, tick);
        if (wrong != 0) {
            return refuse(wrong);
        }
        trials.play(works, falls, with);
        with.listReasons(works, row, machine, tick);
        return grant(with.listed);
    }

    public int reason(int row, int machine, int tick, int i) throws NoSuchElementException {
        if (wrongPlace(row, machine, tick) != 0) {
            throw new NoSuchElementException();
        }
        trials.play(works, falls, with);
        with.listReasons(works, row, machine, tick);
        if (i < 0 || i >= with.listed) {
            throw new NoSuchElementException();
        }
        return with.list[i];
    }

    public int word(int send, int tick) {
        if (send < 0 || send >= works.book.sends) {
            return refuse(NO_SUCH);
        }
        if (tick < 0 || tick >= works.last) {
            return refuse(BAD_NUMBER);
        }
        trials.play(works, falls, with);
        return grant(with.words[send * TICKS + tick]);
    }

    public int differs(int what) {
        if (!hasBook || what < 0 || what > 3) {
            return refuse(NO_SUCH);
        }
        trials.play(works, falls, with);
        trials.play(works, nothing, without);
        for (int tick = 0; tick <= works.last; tick++) {
            for (int machine = 0; machine < works.book.machines; machine++) {
                int one = with.there[cell(tick, machine)];
                int alone = one ^ without.there[cell(tick, machine)];
                if (alone != 0) {
                    int row = Integer.numberOfTrailingZeros(alone);
                    return grant(partOf(what, tick, machine, row, one >> row & 1));
                }
            }
        }
        return grant(-2);
    }

    // ---- formulas

    public int spoils() {
        if (!hasBook) {
            return refuse(NO_SUCH);
        }
        trials.play(works, nothing, without);
        if (without.verdict == BROKEN) {
            return refuse(NOT_SO);
        }
        long spoiled = trials.spoiledBy(works, without, falls);
        return grant((int) (spoiled & 1L));
    }

    public int stands(int row, int machine, int tick) {
        int wrong = wrongPlace(row, machine, tick);
        if (wrong != 0) {
            return refuse(wrong);
        }
        trials.play(works, nothing, without);
        if (!without.isThere(row, machine, tick)) {
            return refuse(NOT_SO);
        }
        trials.spoiledBy(works, without, falls);
        return grant((int) (trials.support.stand[cell(tick, machine) * ROWS + row] & 1L));
    }

    public int trial(int runs) {
        if (!hasBook) {
            return refuse(NO_SUCH);
        }
        if (runs < 1 || runs > RUNS_MOST) {
            return refuse(BAD_NUMBER);
        }
        trials.play(works, nothing, without);
        if (without.verdict != GOOD || trials.purse.isTooMuch(works)) {
            return refuse(NOT_SO);
        }
        return grant(trials.search(works, runs));
    }

    public int tried() {
        return trials.triedRuns;
    }

    public int known() {
        return trials.formulaCount;
    }

    public int found(int i) {
        return trials.foundSet.at(i);
    }

    public int exact() {
        if (!hasBook) {
            return refuse(NO_SUCH);
        }
        if (trials.purse.isTooMuch(works)) {
            return refuse(NOT_SO);
        }
        return grant(trials.runAll(works));
    }

    public int exactly(int i) {
        return trials.exactSet.at(i);
    }

    public int cut() {
        if (!hasBook) {
            return refuse(NO_SUCH);
        }
        if (!isBroken(works, falls)) {
            return refuse(NOT_SO);
        }
        for (int i = falls.size - 1; i >= 0; i--) {
            fewer.take(falls);
            fewer.dropAt(i);
            if (isBroken(works, fewer)) {
                falls.take(fewer);
            }
        }
        return grant(falls.size);
    }

    public int told(int i) {
        return falls.at(i);
    }

    public boolean start(int bits) {
        if (!hasBook) {
            return refuse(NO_SUCH) != NONE;
        }
        if (bits < 0 || bits >= 1 << works.book.maybes) {
            return refuse(BAD_NUMBER) != NONE;
        }
        works.begun = bits;
        return grant(1) == 1;
    }

    public int thin() {
        if (!hasBook) {
            return refuse(NO_SUCH);
        }
        if (trials.purse.isTooMuch(works)) {
            return refuse(NOT_SO);
        }
        guess.copy(works);
        int bits = trials.thinnest(guess);
        return bits == NONE ? refuse(NO_WAY) : grant(bits);
    }

    public int thinness() {
        return trials.thinSize;
    }

    public int led(int i) throws NoSuchElementException {
        if (!hasBook || i < 0 || i >= chain.length) {
            throw new NoSuchElementException();
        }
        trials.play(works, falls, with);
        if (i >= with.followChain(works, chain)) {
            throw new NoSuchElementException();
        }
        return chain[i];
    }

    // ---- mends

    public int mend(int form, int which) {
        if (form < KEEP_ROW || form > LEAVE_NOTS) {
            return refuse(NO_SUCH);
        }
        int most = form == KEEP_ROW ? works.book.rows : works.book.sends;
        if (which < 0 || which >= most) {
            return refuse(NO_SUCH);
        }
        int number = form * 10 + which;
        if (toldMends.has(number)) {
            return refuse(NOT_SO);
        }
        if (toldMends.size == MENDS) {
            return refuse(NO_ROOM);
        }
        toldMends.append(number);
        return grant(toldMends.size - 1);
    }

    public int keep() {
        if (!hasBook) {
            return refuse(NO_SUCH);
        }
        if (falls.size == 0) {
            return refuse(NOT_SO);
        }
        if (keptCount == KEPT_SETS) {
            return refuse(NO_ROOM);
        }
        keptSets[keptCount].take(falls);
        keptCount++;
        return grant(keptCount);
    }

    public int fit(int mends) {
        if (!hasBook) {
            return refuse(NO_SUCH);
        }
        if (!areMends(mends)) {
            return refuse(BAD_NUMBER);
        }
        return grant(isFit(mends) ? 1 : 0);
    }

    public int least() {
        if (!hasBook) {
            return refuse(NO_SUCH);
        }
        for (int many = 0; many <= toldMends.size; many++) {
            for (int bits = 0; bits < 1 << toldMends.size; bits++) {
                if (Integer.bitCount(bits) == many && isFit(bits)) {
                    return grant(bits);
                }
            }
        }
        return refuse(NO_WAY);
    }

    public int make(int mends) {
        if (!hasBook) {
            return refuse(NO_SUCH);
        }
        if (!areMends(mends)) {
            return refuse(BAD_NUMBER);
        }
        mendAll(works, mends);
        toldMends.wipe();
        return grant(Integer.bitCount(mends));
    }

    public int count(int what) {
        Book book = works.book;
        switch (what) {
            case 0: return book.machines;
            case 1: return book.rows;
            case 2: return book.facts;
            case 3: return book.rules;
            case 4: return book.sends;
            case 5: return works.last;
            case 6: return falls.size;
            case 7: return toldMends.size;
            case 8: return keptCount;
            case 9: return trials.purse.fallCount(works);
            case 10: return trials.purse.setCount(works);
            case 11: return book.maybes;
            case 12: return works.begun;
            case 13: return reader.fed;
            default: return NONE;
        }
    }

    public int trouble() {
        return refusal;
    }

    private int refuse(int number) {
        refusal = number;
        return NONE;
    }

    private int grant(int answer) {
        refusal = 0;
        return answer;
    }

    private int wrongPlace(int row, int machine, int tick) {
        if (row < 0 || row >= works.book.rows || machine < 0 || machine >= works.book.machines) {
            return NO_SUCH;
        }
        return tick < 0 || tick > works.last ? BAD_NUMBER : 0;
    }

    private boolean isBroken(Works by, Numbers set) {
        trials.play(by, set, with);
        return with.verdict == BROKEN;
    }

    private boolean areMends(int bits) {
        return bits >= 0 && bits < 1 << toldMends.size;
    }

    private void mendAll(Works by, int bits) {
        for (int i = 0; i < toldMends.size; i++) {
            if ((bits >> i & 1) != 0) {
                by.change(toldMends.at(i));
            }
        }
    }

    private boolean isFit(int bits) {
        guess.copy(works);
        mendAll(guess, bits);
        trials.play(guess, nothing, without);
        if (without.verdict != GOOD) {
            return false;
        }
        for (int i = 0; i < keptCount; i++) {
            if (isBroken(guess, keptSets[i])) {
                return false;
            }
        }
        return true;
    }

    private static int partOf(int what, int tick, int machine, int row, int there) {
        switch (what) {
            case 0: return tick;
            case 1: return machine;
            case 2: return row;
            default: return there;
        }
    }

    private static int cell(int tick, int machine) {
        return tick * MACHINES + machine;
    }

    private static int numberOf(int kind, int which, int tick) {
        return 100 * kind + 10 * which + tick;
    }

    /** A few numbers in a room of fixed size. */
    private static final class Numbers {
        final int[] held;
        int size;

        Numbers(int room) {
            held = new int[room < 0 ? 0 : room];
        }

        int at(int i) {
            return i >= 0 && i < size ? held[i] : NONE;
        }

        boolean has(int number) {
            for (int i = 0; i < size; i++) {
                if (held[i] == number) {
                    return true;
                }
            }
            return false;
        }

        void wipe() {
            size = 0;
        }

        void append(int number) {
            if (size < held.length) {
                held[size] = number;
                size++;
            }
        }

        /** Keeps the numbers in rising order. */
        void insert(int number) {
            if (size == held.length) {
                return;
            }
            int i = size;
            for (; i > 0 && held[i - 1] > number; i--) {
                held[i] = held[i - 1];
            }
            held[i] = number;
            size++;
        }

        void dropAt(int place) {
            if (place < 0 || place >= size) {
                return;
            }
            size--;
            for (int i = place; i < size; i++) {
                held[i] = held[i + 1];
            }
        }

        void take(Numbers other) {
            size = 0;
            for (int i = 0; i < other.size; i++) {
                append(other.held[i]);
            }
        }
    }

    /** A RULE or a SEND: the ROW that it brings, the CASES that it asks for. */
    private static final class Clause {
        final int[] caseRow = new int[CASES];
        final boolean[] caseNot = new boolean[CASES];
        int cases;
        int row;
        int wanted;
        int unwanted;
        /** The MACHINE of a RULE (NONE: each one), or the one that sends. */
        int place;
        int target;
        boolean now;

        void wipe() {
            cases = 0;
            row = 0;
            wanted = 0;
            unwanted = 0;
            place = NONE;
            target = NONE;
            now = false;
        }

        void addCase(int ofRow, boolean not) {
            if (cases == CASES) {
                return;
            }
            caseRow[cases] = ofRow;
            caseNot[cases] = not;
            cases++;
            if (not) {
                unwanted |= 1 << ofRow;
            } else {
                wanted |= 1 << ofRow;
            }
        }

        boolean isFor(int machine) {
            return place == NONE || place == machine;
        }

        boolean holdsAmong(int rows, boolean bare) {
            return (rows & wanted) == wanted && (bare || (rows & unwanted) == 0);
        }
    }

    /** What THE TEXT of a BOOK tells. */
    private static final class Book {
        int machines;
        int rows;
        int facts;
        int rules;
        int sends;
        int maybes;
        int kept;
        final int[] factRow = new int[FACTS];
        final int[] factMachine = new int[FACTS];
        /** The FACT's bit of THE START; 0 for one without maybe. */
        final int[] factBit = new int[FACTS];
        final Clause[] rule = new Clause[RULES];
        final Clause[] send = new Clause[SENDS];
        /** PLACES are ROWS times the MACHINE and the ROW. */
        final int[] ahead = new int[PLACES];
        final int[] behind = new int[PLACES];
        int aheadCount;
        int behindCount;

        Book() {
            for (int i = 0; i < RULES; i++) {
                rule[i] = new Clause();
            }
            for (int i = 0; i < SENDS; i++) {
                send[i] = new Clause();
            }
        }

        void wipe() {
            machines = 0;
            rows = 0;
            facts = 0;
            rules = 0;
            sends = 0;
            maybes = 0;
            kept = 0;
            aheadCount = 0;
            behindCount = 0;
        }

        void addFact(int row, int machine, boolean maybe) {
            if (facts == FACTS) {
                return;
            }
            factRow[facts] = row;
            factMachine[facts] = machine;
            factBit[facts] = maybe ? 1 << maybes : 0;
            facts++;
            if (maybe) {
                maybes++;
            }
        }

        int factsAt(int machine, int begun) {
            int bits = 0;
            for (int i = 0; i < facts; i++) {
                if (factMachine[i] == machine && (factBit[i] & begun) == factBit[i]) {
                    bits |= 1 << factRow[i];
                }
            }
            return bits;
        }

        /** How many SENDS (MACHINES) a FALL of a KIND can hit. */
        int hitBy(int kind) {
            return kind == LOST || kind == LATE ? sends : machines;
        }
    }

    /** What every RUN goes by: the BOOK, what is mended in it, LAST, THE START. */
    private static final class Works {
        Book book;
        int last;
        int begun;
        int kept;
        int again;
        int bare;

        Works(Book first) {
            book = first;
        }

        void begin(Book from) {
            book = from;
            last = LAST_FIRST;
            begun = (1 << from.maybes) - 1;
            kept = from.kept;
            again = 0;
            bare = 0;
        }

        void copy(Works other) {
            book = other.book;
            last = other.last;
            begun = other.begun;
            kept = other.kept;
            again = other.again;
            bare = other.bare;
        }

        void change(int mend) {
            int bit = 1 << mend % 10;
            switch (mend / 10) {
                case KEEP_ROW: kept |= bit; break;
                case SEND_AGAIN: again |= bit; break;
                case LEAVE_NOTS: bare |= bit; break;
                default: break;
            }
        }

        boolean isAgain(int send) {
            return (again >> send & 1) != 0;
        }

        boolean isBare(int send) {
            return (bare >> send & 1) != 0;
        }
    }

    /** THE TAPE, and the reading of a BOOK from it. */
    private static final class Reader {
        static final int END = 0;
        static final int SIGN = 1;
        static final int LETTERS = 2;
        static final int NO_TOKEN = 3;

        final byte[] tape = new byte[TAPE_ROOM];
        final long[] names = new long[MACHINES + ROWS];
        /** A MACHINE's number, or MACHINES and a ROW's number. */
        final int[] meanings = new int[MACHINES + ROWS];
        int nameCount;
        int fed;
        int end;
        int at;
        int after;
        int sort;
        int flaw;
        Book book;

        Reader(Book first) {
            book = first;
        }

        void takeNumber(int number) {
            for (int shift = 24; shift >= 0 && fed < TAPE_ROOM; shift -= 8) {
                tape[fed] = (byte) (number >> shift);
                fed++;
            }
        }

        boolean read(int n, Book into) {
            end = Math.max(0, Math.min(n, fed));
            fed = 0;
            after = 0;
            nameCount = 0;
            flaw = 0;
            book = into;
            book.wipe();
            for (int line = 0; line <= end; line++) {
                step();
                boolean whole;
                if (spells("promise")) {
                    return readPromise();
                } else if (spells("machine")) {
                    whole = readMachine();
                } else if (spells("row")) {
                    whole = readRow();
                } else if (spells("fact")) {
                    whole = readFact();
                } else if (spells("rule")) {
                    whole = readRule();
                } else if (spells("send")) {
                    whole = readSend();
                } else {
                    whole = flawed(WRONG_FORM);
                }
                if (!whole) {
                    return false;
                }
            }
            return flawed(WRONG_FORM);
        }

        boolean flawed(int number) {
            flaw = number;
            return false;
        }

        /** Goes on to the next TOKEN. */
        void step() {
            at = after;
            while (at < end && tape[at] == ' ') {
                at++;
            }
            after = at;
            if (at >= end) {
                sort = END;
            } else if (tape[at] == ';') {
                sort = SIGN;
                after = at + 1;
            } else {
                while (after < end && tape[after] >= 'a' && tape[after] <= 'z') {
                    after++;
                }
                int length = after - at;
                sort = length >= 1 && length <= WORD_ROOM ? LETTERS : NO_TOKEN;
            }
        }

        boolean spells(String text) {
            if (sort != LETTERS || after - at != text.length()) {
                return false;
            }
            for (int i = 0; i < text.length(); i++) {
                if (tape[at + i] != text.charAt(i)) {
                    return false;
                }
            }
            return true;
        }

        boolean stepTo(String text) {
            step();
            return spells(text) || flawed(WRONG_FORM);
        }

        boolean endsLine() {
            return sort == SIGN || flawed(WRONG_FORM);
        }

        boolean isName() {
            return sort == LETTERS && !spells("machine") && !spells("row") && !spells("fact")
                && !spells("rule") && !spells("send") && !spells("promise") && !spells("not")
                && !spells("and") && !spells("or") && !spells("at") && !spells("if");
        }

        /** The letters as one number: eight letters of five bits fit in it. */
        long spelling() {
            long code = 0;
            for (int i = at; i < after; i++) {
                code = code * 32 + (tape[i] - 'a' + 1);
            }
            return code;
        }

        int meaning() {
            long code = spelling();
            for (int i = 0; i < nameCount; i++) {
                if (names[i] == code) {
                    return meanings[i];
                }
            }
            return NONE;
        }

        boolean stepToNewName(int meaning) {
            step();
            if (!isName()) {
                return flawed(WRONG_FORM);
            }
            if (meaning() != NONE || nameCount == names.length) {
                return flawed(TOLD_AGAIN);
            }
            names[nameCount] = spelling();
            meanings[nameCount] = meaning;
            nameCount++;
            return true;
        }

        /** The ROW that the TOKEN names; NONE, and a FAULT, if it names none. */
        int rowHere() {
            if (!isName()) {
                flawed(WRONG_FORM);
                return NONE;
            }
            int found = meaning();
            if (found < MACHINES) {
                flawed(WRONG_NAME);
                return NONE;
            }
            return found - MACHINES;
        }

        int stepToRow() {
            step();
            return rowHere();
        }

        int stepToMachine() {
            step();
            if (!isName()) {
                flawed(WRONG_FORM);
                return NONE;
            }
            int found = meaning();
            if (found == NONE || found >= MACHINES) {
                flawed(WRONG_NAME);
                return NONE;
            }
            return found;
        }

        boolean readMachine() {
            if (book.machines == MACHINES) {
                return flawed(TOO_MANY);
            }
            if (!stepToNewName(book.machines)) {
                return false;
            }
            book.machines++;
            step();
            return endsLine();
        }

        boolean readRow() {
            if (book.rows == ROWS) {
                return flawed(TOO_MANY);
            }
            if (!stepToNewName(MACHINES + book.rows)) {
                return false;
            }
            step();
            if (spells("kept")) {
                book.kept |= 1 << book.rows;
                step();
            }
            book.rows++;
            return endsLine();
        }

        boolean readFact() {
            if (book.facts == FACTS) {
                return flawed(TOO_MANY);
            }
            int row = stepToRow();
            if (row == NONE || !stepTo("at")) {
                return false;
            }
            int machine = stepToMachine();
            if (machine == NONE) {
                return false;
            }
            step();
            boolean maybe = spells("maybe");
            if (maybe) {
                step();
            }
            book.addFact(row, machine, maybe);
            return endsLine();
        }

        boolean readRule() {
            if (book.rules == RULES) {
                return flawed(TOO_MANY);
            }
            Clause rule = book.rule[book.rules];
            rule.wipe();
            rule.row = stepToRow();
            if (rule.row == NONE) {
                return false;
            }
            step();
            rule.now = spells("now");
            if (!rule.now && !spells("next")) {
                return flawed(WRONG_FORM);
            }
            if (!stepTo("if") || !readCases(rule, !rule.now)) {
                return false;
            }
            if (spells("at")) {
                rule.place = stepToMachine();
                if (rule.place == NONE) {
                    return false;
                }
                step();
            }
            book.rules++;
            return endsLine();
        }

        boolean readSend() {
            if (book.sends == SENDS) {
                return flawed(TOO_MANY);
            }
            Clause send = book.send[book.sends];
            send.wipe();
            send.row = stepToRow();
            if (send.row == NONE || !stepTo("to")) {
                return false;
            }
            send.target = stepToMachine();
            if (send.target == NONE || !stepTo("if") || !readCases(send, true)) {
                return false;
            }
            if (!spells("at")) {
                return flawed(WRONG_FORM);
            }
            send.place = stepToMachine();
            if (send.place == NONE) {
                return false;
            }
            if (send.place == send.target) {
                return flawed(TOLD_AGAIN);
            }
            book.sends++;
            step();
            return endsLine();
        }

        /** Ends at the TOKEN behind the CASES. */
        boolean readCases(Clause clause, boolean mayDeny) {
            for (int i = 0; i <= CASES; i++) {
                step();
                boolean not = mayDeny && spells("not");
                if (not && i == CASES) {
                    return flawed(TOO_MANY);
                }
                if (not) {
                    step();
                }
                int row = rowHere();
                if (row == NONE) {
                    return false;
                }
                if (i == CASES) {
                    return flawed(TOO_MANY);
                }
                clause.addCase(row, not);
                step();
                if (!spells("and")) {
                    return true;
                }
            }
            return flawed(TOO_MANY);
        }

        boolean readPromise() {
            book.aheadCount = readPlaces(book.ahead, "and");
            if (book.aheadCount == NONE) {
                return false;
            }
            if (!spells("gives")) {
                return flawed(WRONG_FORM);
            }
            book.behindCount = readPlaces(book.behind, "or");
            if (book.behindCount == NONE) {
                return false;
            }
            return sort == END || flawed(WRONG_FORM);
        }

        /** How many PLACES; NONE, and a FAULT. Ends at the TOKEN behind them. */
        int readPlaces(int[] places, String joint) {
            for (int i = 0; i <= PLACES; i++) {
                step();
                int row = rowHere();
                if (row == NONE) {
                    return NONE;
                }
                if (i >= PLACES || i >= places.length) {
                    flawed(TOO_MANY);
                    return NONE;
                }
                int machine = stepTo("at") ? stepToMachine() : NONE;
                if (machine == NONE) {
                    return NONE;
                }
                places[i] = machine * ROWS + row;
                step();
                if (!spells(joint)) {
                    return i + 1;
                }
            }
            return NONE;
        }
    }

    /**
     * FALLS of 64 RUNS side by side: a bit of each long is a RUN of its own, so
     * that the many SETS of THE PURSE need few passes.
     */
    private static final class FallLanes {
        final long[] lost = new long[SENDS * TICKS];
        final long[] late = new long[SENDS * TICKS];
        final long[] down = new long[MACHINES * TICKS];

        void wipe() {
            Arrays.fill(lost, 0L);
            Arrays.fill(late, 0L);
            Arrays.fill(down, 0L);
        }

        void put(int number, long lanes) {
            int which = number / 10 % 10;
            int tick = number % 10;
            switch (number / 100) {
                case LOST: lost[which * TICKS + tick] |= lanes; break;
                case DOWN: putDown(which, tick, LAST_MOST, lanes); break;
                case AWAY: putDown(which, tick, tick + 1, lanes); break;
                case LATE: late[which * TICKS + tick] |= lanes; break;
                default: break;
            }
        }

        void putDown(int machine, int from, int to, long lanes) {
            for (int tick = from; tick <= to && tick < TICKS; tick++) {
                down[machine * TICKS + tick] |= lanes;
            }
        }

        void putAll(Numbers set) {
            wipe();
            for (int i = 0; i < set.size; i++) {
                put(set.held[i], EVERY_LANE);
            }
        }
    }

    /** 64 RUNS side by side. */
    private static final class Course {
        final long[] there = new long[CELLS * ROWS];
        final long[] arrived = new long[CELLS * ROWS];
        final long[] carried = new long[MACHINES * ROWS];
        final long[] heldBefore = new long[SENDS];
        final long[] sent = new long[SENDS * TICKS];
        long broken;
        long good;
        Works works;
        Book book;
        FallLanes falls;

        Course(Works first, FallLanes none) {
            works = first;
            book = first.book;
            falls = none;
        }

        void go(Works by, FallLanes hitBy) {
            works = by;
            book = by.book;
            falls = hitBy;
            Arrays.fill(arrived, 0L);
            Arrays.fill(carried, 0L);
            Arrays.fill(heldBefore, 0L);
            for (int tick = 0; tick <= works.last; tick++) {
                for (int machine = 0; machine < book.machines; machine++) {
                    fill(machine, tick);
                }
                for (int send = 0; send < book.sends && tick < works.last; send++) {
                    sendWords(send, tick);
                }
            }
            judge();
        }

        void fill(int machine, int tick) {
            long up = ~falls.down[machine * TICKS + tick];
            int first = cell(tick, machine) * ROWS;
            int facts = tick == 0 ? book.factsAt(machine, works.begun) : 0;
            for (int row = 0; row < book.rows; row++) {
                long some = arrived[first + row];
                if ((facts >> row & 1) != 0) {
                    some = EVERY_LANE;
                }
                if ((works.kept >> row & 1) != 0) {
                    some |= carried[machine * ROWS + row];
                }
                there[first + row] = some & up;
            }
            if (tick > 0) {
                addNext(machine, tick, up);
            }
            addNow(machine, tick);
            for (int row = 0; row < book.rows; row++) {
                int place = machine * ROWS + row;
                carried[place] = carried[place] & ~up | there[first + row];
            }
        }

        void addNext(int machine, int tick, long up) {
            int first = cell(tick, machine) * ROWS;
            for (int i = 0; i < book.rules; i++) {
                Clause rule = book.rule[i];
                if (!rule.now && rule.isFor(machine)) {
                    there[first + rule.row] |= held(rule, machine, tick - 1, false) & up;
                }
            }
        }

        /** Each round that matters brings a ROW, so there are no more rounds than ROWS. */
        void addNow(int machine, int tick) {
            int first = cell(tick, machine) * ROWS;
            boolean grew = true;
            for (int round = 0; round < ROWS && grew; round++) {
                grew = false;
                for (int i = 0; i < book.rules; i++) {
                    Clause rule = book.rule[i];
                    if (rule.now && rule.isFor(machine)) {
                        long more = held(rule, machine, tick, false) & ~there[first + rule.row];
                        there[first + rule.row] |= more;
                        grew |= more != 0;
                    }
                }
            }
        }

        /** The RUNS in which all CASES hold at a MACHINE that isn't DOWN. */
        long held(Clause clause, int machine, int tick, boolean bare) {
            int first = (tick * MACHINES + machine) * ROWS;
            long lanes = ~falls.down[machine * TICKS + tick];
            for (int i = 0; i < clause.cases; i++) {
                long row = there[first + clause.caseRow[i]];
                if (!clause.caseNot[i]) {
                    lanes &= row;
                } else if (!bare) {
                    lanes &= ~row;
                }
            }
            return lanes;
        }

        void sendWords(int send, int tick) {
            Clause clause = book.send[send];
            long holds = held(clause, clause.place, tick, works.isBare(send));
            long sends = holds;
            if (works.isAgain(send)) {
                sends |= heldBefore[send] & ~holds & ~falls.down[clause.place * TICKS + tick];
            }
            heldBefore[send] = holds;
            int word = send * TICKS + tick;
            sent[word] = sends;
            long comes = sends & ~falls.lost[word];
            arrive(clause, tick + 1, comes & ~falls.late[word]);
            arrive(clause, tick + 1 + LATER, comes & falls.late[word]);
        }

        void arrive(Clause send, int tick, long lanes) {
            if (tick <= works.last) {
                arrived[cell(tick, send.target) * ROWS + send.row] |= lanes;
            }
        }

        void judge() {
            int first = cell(works.last, 0) * ROWS;
            long ahead = EVERY_LANE;
            for (int i = 0; i < book.aheadCount; i++) {
                ahead &= there[first + book.ahead[i]];
            }
            long behind = 0;
            for (int i = 0; i < book.behindCount; i++) {
                behind |= there[first + book.behind[i]];
            }
            broken = ahead & ~behind;
            good = ahead & behind;
        }
    }

    /** One RUN, and why each ROW was there in it. */
    private static final class Trace {
        /** ROWS as bits, by TICK and MACHINE. */
        final int[] there = new int[CELLS];
        /** TICKS as bits, by MACHINE. */
        final int[] downTicks = new int[MACHINES];
        /** TICKS as bits, by SEND: a WORD sent again by a MEND. */
        final int[] againTicks = new int[SENDS];
        final int[] words = new int[SENDS * TICKS];
        final int[] list = new int[REASONS];
        int listed;
        int verdict;

        void take(Works works, FallLanes falls, Course course) {
            for (int machine = 0; machine < works.book.machines; machine++) {
                downTicks[machine] = 0;
                for (int tick = 0; tick <= works.last; tick++) {
                    int down = (int) (falls.down[machine * TICKS + tick] & 1L);
                    downTicks[machine] |= down << tick;
                    takeRows(works.book.rows, cell(tick, machine), course);
                }
            }
            for (int send = 0; send < works.book.sends; send++) {
                againTicks[send] = 0;
                for (int tick = 0; tick < works.last; tick++) {
                    takeWord(works, falls, course, send, tick);
                }
            }
            verdict = (course.broken & 1L) != 0 ? BROKEN : (course.good & 1L) != 0 ? GOOD : IDLE;
        }

        void takeRows(int rows, int cell, Course course) {
            int bits = 0;
            for (int row = 0; row < rows; row++) {
                bits |= (int) (course.there[cell * ROWS + row] & 1L) << row;
            }
            there[cell] = bits;
        }

        void takeWord(Works works, FallLanes falls, Course course, int send, int tick) {
            Clause clause = works.book.send[send];
            int word = send * TICKS + tick;
            if ((course.sent[word] & 1L) == 0) {
                words[word] = UNSENT;
                return;
            }
            if (!clause.holdsAmong(there[cell(tick, clause.place)], works.isBare(send))) {
                againTicks[send] |= 1 << tick;
            }
            boolean late = (falls.late[word] & 1L) != 0;
            int comes = tick + 1 + (late ? LATER : 0);
            if ((falls.lost[word] & 1L) != 0) {
                words[word] = WORD_LOST;
            } else if (comes > works.last || isDown(clause.target, comes)) {
                words[word] = UNMET;
            } else {
                words[word] = late ? WORD_LATE : IN_TIME;
            }
        }

        boolean isDown(int machine, int tick) {
            return (downTicks[machine] >> tick & 1) != 0;
        }

        boolean isThere(int row, int machine, int tick) {
            return (there[cell(tick, machine)] >> row & 1) != 0;
        }

        boolean comesIn(int send, int sendTick, int tick) {
            int state = words[send * TICKS + sendTick];
            return state == IN_TIME && sendTick + 1 == tick
                || state == WORD_LATE && sendTick + 1 + LATER == tick;
        }

        /** The TICK in which the CASES held by which a WORD was sent. */
        int caseTick(int send, int sendTick) {
            return sendTick - (againTicks[send] >> sendTick & 1);
        }

        /** The latest TICK ahead in which the MACHINE was not DOWN; NONE. */
        int tickAhead(int machine, int tick) {
            for (int before = tick - 1; before >= 0; before--) {
                if (!isDown(machine, before)) {
                    return before;
                }
            }
            return NONE;
        }

        /** Whether a RULE next has its CASES for a TICK. */
        boolean bringsNext(Clause rule, int machine, int tick) {
            return !rule.now && rule.isFor(machine) && tick > 0 && !isDown(machine, tick - 1)
                && rule.holdsAmong(there[cell(tick - 1, machine)], false);
        }

        boolean bringsNow(Clause rule, int machine, int tick) {
            return rule.now && rule.isFor(machine) && rule.holdsAmong(there[cell(tick, machine)], false);
        }

        void addReason(int number) {
            if (listed < list.length) {
                list[listed] = number;
                listed++;
            }
        }

        void listReasons(Works works, int row, int machine, int tick) {
            listed = 0;
            if (isDown(machine, tick)) {
                return;
            }
            if (tick == 0 && (works.book.factsAt(machine, works.begun) >> row & 1) != 0) {
                addReason(0);
            }
            listWords(works.book, row, machine, tick);
            int before = tickAhead(machine, tick);
            if ((works.kept >> row & 1) != 0 && before != NONE && isThere(row, machine, before)) {
                addReason(BY_KEEPING + before);
            }
            for (int i = 0; i < works.book.rules; i++) {
                Clause rule = works.book.rule[i];
                if (rule.row == row && bringsNext(rule, machine, tick)) {
                    addReason(BY_NEXT + i);
                }
            }
            for (int i = 0; i < works.book.rules; i++) {
                Clause rule = works.book.rule[i];
                if (rule.row == row && bringsNow(rule, machine, tick)) {
                    addReason(BY_NOW + i);
                }
            }
        }

        void listWords(Book book, int row, int machine, int tick) {
            for (int send = 0; send < book.sends; send++) {
                Clause clause = book.send[send];
                if (clause.row != row || clause.target != machine) {
                    continue;
                }
                for (int sendTick = 0; sendTick < tick; sendTick++) {
                    if (comesIn(send, sendTick, tick)) {
                        addReason(BY_WORD + 10 * send + sendTick);
                    }
                }
            }
        }

        /** Writes the CHAIN and tells its length. */
        int followChain(Works works, int[] chain) {
            int length = 0;
            int link = firstLink(works);
            for (int i = 0; i < chain.length && link != NONE; i++) {
                for (int k = 0; k < length; k++) {
                    if (chain[k] == link) {
                        return length;
                    }
                }
                chain[length] = link;
                length++;
                link = linkBehind(works, link);
            }
            return length;
        }

        int firstLink(Works works) {
            for (int i = 0; i < works.book.behindCount; i++) {
                int machine = works.book.behind[i] / ROWS;
                int row = works.book.behind[i] % ROWS;
                if (isThere(row, machine, works.last)) {
                    return linkOf(works.last, machine, row);
                }
            }
            return NONE;
        }

        static int linkOf(int tick, int machine, int row) {
            return 1000 * tick + 100 * machine + row;
        }

        int linkBehind(Works works, int link) {
            int tick = link / 1000;
            int machine = link / 100 % 10;
            int row = link % 100;
            listReasons(works, row, machine, tick);
            if (listed == 0) {
                return NONE;
            }
            int number = list[0] % 1000;
            switch (list[0] / 1000 * 1000) {
                case BY_WORD:
                    Clause send = works.book.send[number / 10];
                    return leastLink(caseTick(number / 10, number % 10), send.place, send.wanted);
                case BY_KEEPING:
                    return linkOf(number, machine, row);
                case BY_NEXT:
                    return leastLink(tick - 1, machine, works.book.rule[number].wanted);
                case BY_NOW:
                    return leastLink(tick, machine, works.book.rule[number].wanted);
                default:
                    return NONE;
            }
        }

        static int leastLink(int tick, int machine, int rows) {
            return rows == 0 ? NONE : linkOf(tick, machine, Integer.numberOfTrailingZeros(rows));
        }
    }

    /** THE FORMULA of one RUN, with the FALLS of 64 put to it side by side. */
    private static final class Support {
        final long[] stand = new long[CELLS * ROWS];
        Works works;
        Book book;
        Trace base;
        FallLanes put;

        Support(Works first, Trace none, FallLanes noFalls) {
            works = first;
            book = first.book;
            base = none;
            put = noFalls;
        }

        /** The lanes whose FALLS SPOIL it. */
        long spoiledLanes(Works by, Trace trace, FallLanes falls) {
            works = by;
            book = by.book;
            base = trace;
            put = falls;
            for (int tick = 0; tick <= works.last; tick++) {
                for (int machine = 0; machine < book.machines; machine++) {
                    settle(machine, tick);
                }
            }
            int first = cell(works.last, 0) * ROWS;
            long held = 0;
            for (int i = 0; i < book.behindCount; i++) {
                held |= stand[first + book.behind[i]];
            }
            return ~held;
        }

        void settle(int machine, int tick) {
            int first = cell(tick, machine) * ROWS;
            for (int row = 0; row < book.rows; row++) {
                stand[first + row] = 0;
            }
            if (base.there[cell(tick, machine)] == 0) {
                return;
            }
            long free = ~put.down[machine * TICKS + tick];
            if (tick == 0) {
                addFacts(machine, free);
            } else {
                addWords(machine, tick, free);
                addKept(machine, tick, free);
                addNext(machine, tick, free);
            }
            addNow(machine, tick);
        }

        void addFacts(int machine, long free) {
            int facts = book.factsAt(machine, works.begun);
            int first = cell(0, machine) * ROWS;
            for (int row = 0; row < book.rows; row++) {
                if ((facts >> row & 1) != 0) {
                    stand[first + row] = free;
                }
            }
        }

        void addWords(int machine, int tick, long free) {
            for (int send = 0; send < book.sends; send++) {
                if (book.send[send].target == machine) {
                    addWord(send, tick - 1, tick, free);
                    addWord(send, tick - 1 - LATER, tick, free);
                }
            }
        }

        void addWord(int send, int sendTick, int tick, long free) {
            if (sendTick < 0 || !base.comesIn(send, sendTick, tick)) {
                return;
            }
            Clause clause = book.send[send];
            int word = send * TICKS + sendTick;
            long spared = ~put.lost[word] & ~put.late[word] & ~put.down[clause.place * TICKS + sendTick];
            spared &= casesStand(clause, clause.place, base.caseTick(send, sendTick));
            stand[cell(tick, clause.target) * ROWS + clause.row] |= spared & free;
        }

        void addKept(int machine, int tick, long free) {
            int before = base.tickAhead(machine, tick);
            if (before == NONE) {
                return;
            }
            int first = cell(tick, machine) * ROWS;
            int from = cell(before, machine) * ROWS;
            for (int row = 0; row < book.rows; row++) {
                if ((works.kept >> row & 1) != 0) {
                    stand[first + row] |= stand[from + row] & free;
                }
            }
        }

        void addNext(int machine, int tick, long free) {
            int first = cell(tick, machine) * ROWS;
            long spared = free & ~put.down[machine * TICKS + tick - 1];
            for (int i = 0; i < book.rules; i++) {
                Clause rule = book.rule[i];
                if (base.bringsNext(rule, machine, tick)) {
                    stand[first + rule.row] |= spared & casesStand(rule, machine, tick - 1);
                }
            }
        }

        /** From below, so that nothing stands by itself alone, round about. */
        void addNow(int machine, int tick) {
            int first = cell(tick, machine) * ROWS;
            boolean grew = true;
            for (int round = 0; round < ROWS && grew; round++) {
                grew = false;
                for (int i = 0; i < book.rules; i++) {
                    Clause rule = book.rule[i];
                    if (rule.now && rule.isFor(machine)) {
                        long more = casesStand(rule, machine, tick) & ~stand[first + rule.row];
                        stand[first + rule.row] |= more;
                        grew |= more != 0;
                    }
                }
            }
        }

        long casesStand(Clause clause, int machine, int tick) {
            int first = (tick * MACHINES + machine) * ROWS;
            long lanes = EVERY_LANE;
            for (int i = 0; i < clause.cases; i++) {
                if (!clause.caseNot[i]) {
                    lanes &= stand[first + clause.caseRow[i]];
                }
            }
            return lanes;
        }
    }

    /**
     * THE PURSE and its SETS. They come in bundles: FALLS that all SETS of the
     * bundle have (the stem), and one FALL more, greater than those, for each lane.
     */
    private static final class Purse {
        final int[] room = new int[KINDS];
        final int[] all = new int[ALL_FALLS_ROOM];
        final int[] stem = new int[PURSE_ROOM];
        final int[] used = new int[KINDS];
        int size;
        int howMany;
        int base;
        long open;

        void beginAnew() {
            room[LOST] = 1;
            room[DOWN] = 1;
            room[AWAY] = 0;
            room[LATE] = 0;
        }

        int total() {
            return room[LOST] + room[DOWN] + room[AWAY] + room[LATE];
        }

        int fallsOf(Works works, int kind) {
            return room[kind] == 0 ? 0 : works.book.hitBy(kind) * works.last;
        }

        int fallCount(Works works) {
            int sum = 0;
            for (int kind = 0; kind < KINDS; kind++) {
                sum += fallsOf(works, kind);
            }
            return sum;
        }

        /** Some of each KIND, freely joined, but for none at all. */
        int setCount(Works works) {
            int product = 1;
            for (int kind = 0; kind < KINDS; kind++) {
                int falls = fallsOf(works, kind);
                int ways = 1;
                int choices = 1;
                for (int some = 1; some <= room[kind] && some <= falls; some++) {
                    choices = choices * (falls - some + 1) / some;
                    ways += choices;
                }
                product *= ways;
            }
            return product - 1;
        }

        boolean isTooMuch(Works works) {
            return total() == PURSE_ROOM && fallCount(works) > FALLS_FOR_THREE;
        }

        /** Lists ALL FALLS; the first bundle comes by advance(). */
        void begin(Works works) {
            size = 0;
            for (int kind = 0; kind < KINDS; kind++) {
                int hit = room[kind] == 0 ? 0 : works.book.hitBy(kind);
                for (int which = 0; which < hit; which++) {
                    for (int tick = 0; tick < works.last && size < ALL_FALLS_ROOM; tick++) {
                        all[size] = numberOf(kind, which, tick);
                        size++;
                    }
                }
            }
            howMany = 0;
            base = size;
        }

        /** Goes on to the next bundle, if there is one. */
        boolean advance() {
            if (base + LANES < size) {
                base += LANES;
                return true;
            }
            base = 0;
            if (howMany > 0 && advanceStem(howMany - 1)) {
                return true;
            }
            howMany++;
            for (int i = 0; i < howMany - 1 && i < PURSE_ROOM; i++) {
                stem[i] = i;
            }
            return howMany <= total() && howMany <= size;
        }

        boolean advanceStem(int length) {
            for (int i = Math.min(length, PURSE_ROOM) - 1; i >= 0; i--) {
                if (stem[i] < size - length + i) {
                    stem[i]++;
                    for (int k = i + 1; k < length && k < PURSE_ROOM; k++) {
                        stem[k] = stem[k - 1] + 1;
                    }
                    return true;
                }
            }
            return false;
        }

        /** Puts the bundle's FALLS to the lanes; open are those that are SETS. */
        void spread(FallLanes lanes) {
            lanes.wipe();
            open = 0;
            for (int kind = 0; kind < KINDS; kind++) {
                used[kind] = 0;
            }
            int next = 0;
            for (int i = 0; i < howMany - 1 && i < PURSE_ROOM; i++) {
                int number = all[stem[i]];
                used[number / 100]++;
                if (used[number / 100] > room[number / 100]) {
                    return;
                }
                lanes.put(number, EVERY_LANE);
                next = stem[i] + 1;
            }
            for (int i = Math.max(next, base); i < size && i < base + LANES; i++) {
                int kind = all[i] / 100;
                if (used[kind] < room[kind]) {
                    open |= 1L << i - base;
                    lanes.put(all[i], 1L << i - base);
                }
            }
        }

        void writeSet(int lane, Numbers set) {
            set.wipe();
            for (int i = 0; i < howMany - 1 && i < PURSE_ROOM; i++) {
                set.append(all[stem[i]]);
            }
            int place = base + lane;
            if (place >= 0 && place < size) {
                set.append(all[place]);
            }
        }
    }

    /** RUNS, TRIALS, and what the latest of them answered. */
    private static final class Trials {
        final Purse purse = new Purse();
        final FallLanes single = new FallLanes();
        final FallLanes many = new FallLanes();
        final Trace[] formulas = new Trace[RUNS_MOST + 1];
        final Numbers tryingSet = new Numbers(PURSE_ROOM);
        final Numbers foundSet = new Numbers(PURSE_ROOM);
        final Numbers exactSet = new Numbers(PURSE_ROOM);
        final Numbers empty = new Numbers(0);
        final Course course;
        final Support support;
        int triedRuns = NONE;
        int formulaCount = NONE;
        int thinSize = NONE;

        Trials(Works first) {
            formulas[0] = new Trace();
            course = new Course(first, single);
            support = new Support(first, formulas[0], single);
        }

        void forget() {
            purse.beginAnew();
            triedRuns = NONE;
            formulaCount = NONE;
            thinSize = NONE;
            foundSet.wipe();
            exactSet.wipe();
        }

        void play(Works works, Numbers set, Trace into) {
            single.putAll(set);
            course.go(works, single);
            into.take(works, single, course);
        }

        long spoiledBy(Works works, Trace base, Numbers set) {
            single.putAll(set);
            return support.spoiledLanes(works, base, single);
        }

        /** Made when it is first wanted: most TRIALS know few FORMULAS. */
        Trace formula(int i) {
            if (i < 0 || i >= formulas.length) {
                return formulas[0];
            }
            if (formulas[i] == null) {
                formulas[i] = new Trace();
            }
            return formulas[i];
        }

        /** A TRIAL; the RUN without FALLS is known to be GOOD. */
        int search(Works works, int runs) {
            triedRuns = 0;
            formulaCount = 1;
            foundSet.wipe();
            play(works, empty, formula(0));
            purse.begin(works);
            for (int i = 0; i < STEPS && purse.advance(); i++) {
                int end = searchBundle(works, runs);
                if (end != NONE) {
                    return end;
                }
            }
            return HOLDS;
        }

        int searchBundle(Works works, int runs) {
            purse.spread(many);
            long left = purse.open;
            for (int i = 0; i < formulaCount && left != 0; i++) {
                left &= support.spoiledLanes(works, formula(i), many);
            }
            for (int lane = 0; lane < LANES && left != 0; lane++) {
                if ((left >>> lane & 1L) == 0) {
                    continue;
                }
                if (triedRuns == runs) {
                    return SPENT;
                }
                triedRuns++;
                purse.writeSet(lane, tryingSet);
                Trace trace = formula(formulaCount);
                play(works, tryingSet, trace);
                if (trace.verdict == BROKEN) {
                    foundSet.take(tryingSet);
                    return FOUND;
                }
                if (trace.verdict == GOOD) {
                    formulaCount++;
                    left &= support.spoiledLanes(works, trace, many);
                }
            }
            return NONE;
        }

        /** EXACT: how many SETS are BROKEN. */
        int runAll(Works works) {
            int sum = 0;
            exactSet.wipe();
            purse.begin(works);
            for (int i = 0; i < STEPS && purse.advance(); i++) {
                purse.spread(many);
                if (purse.open == 0) {
                    continue;
                }
                course.go(works, many);
                long broken = course.broken & purse.open;
                if (broken != 0 && sum == 0) {
                    purse.writeSet(Long.numberOfTrailingZeros(broken), exactSet);
                }
                sum += Long.bitCount(broken);
            }
            return sum;
        }

        /** THIN: the START as bits, or NONE. */
        int thinnest(Works guess) {
            int best = NONE;
            int bestSize = PURSE_ROOM + 1;
            int starts = 1 << guess.book.maybes;
            for (int bits = 0; bits < starts && bestSize > 1; bits++) {
                guess.begun = bits;
                play(guess, empty, formula(0));
                if (formula(0).verdict == GOOD) {
                    int found = spoilSize(guess, formula(0), bestSize - 1);
                    if (found != NONE) {
                        best = bits;
                        bestSize = found;
                    }
                }
            }
            if (best != NONE) {
                thinSize = bestSize;
            }
            return best;
        }

        /** Of how many FALLS, up to a limit, the first SET is that SPOILS; NONE. */
        int spoilSize(Works works, Trace base, int limit) {
            purse.begin(works);
            for (int i = 0; i < STEPS && purse.advance() && purse.howMany <= limit; i++) {
                purse.spread(many);
                if (purse.open != 0 && (support.spoiledLanes(works, base, many) & purse.open) != 0) {
                    return purse.howMany;
                }
            }
            return NONE;
        }
    }
}
