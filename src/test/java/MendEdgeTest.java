/** Sentences that name an edge: mends, kept sets (IV), trouble (V), promises 30 to 36, the constant, the calls. */
public final class MendEdgeTest extends Edges {
    /** Rows x w z; x is at a in tick 0 alone, and asks then for z at b, which isn't kept. */
    private static final String ONCE = "machine a;machine b;row x;row w kept;row z;fact x at a;fact w at a;send z to b if x at a;"
        + "promise w at a gives z at b";

    public static void main(String[] args) {
        MendEdgeTest test = new MendEdgeTest();
        test.forms();
        test.fitAndLeast();
        test.trouble();
        test.mendCalls();
        test.makeCalls();
        test.counts();
        test.troubleCalls();
        test.objects();
        test.end("IV", "V", "30", "31", "32", "33", "34", "35", "36", "constants", "what it is");
    }

    /** A book with one MEND made in it. */
    private FallTrials mended(String text, int form, int which) {
        FallTrials x = with(text);
        granted(x, "mend(" + form + ", " + which + ")", x.mend(form, which), 0);
        granted(x, "make(1)", x.make(1), 1);
        return x;
    }

    private void tell(FallTrials x, int... numbers) {
        x.clear();
        for (int i = 0; i < numbers.length; i++) {
            int number = numbers[i];
            granted(x, "fall " + number, x.fall(number / 100, number / 10 % 10, number % 10), i + 1);
        }
    }

    private void keep(FallTrials x, int... numbers) {
        tell(x, numbers);
        due("keep()", x.keep() > 0, true);
        x.clear();
    }

    // ------------------------------------------------------------------ forms

    private void forms() {
        sentence("IV", "MENDS: up to 6", this::sixMends);
        sentence("IV", "of FORM 0 a ROW is kept", this::rowKept);
        sentence("IV", "FORM 1 a SEND whose CASES held in the TICK ahead", this::sendsAgain);
        sentence("IV", "(not by sending again)", this::onceAgain);
        sentence("IV", "sends a WORD again, if they don't hold now", this::notIfTheyHold);
        sentence("IV", "(the MACHINE not being DOWN in either TICK", this::upInBoth);
        sentence("IV", "not in LAST", this::notInLast);
        sentence("IV", "in THE FORMULA its CASES are those of the TICK ahead", this::casesOfTheTickAhead);
        sentence("IV", "FORM 2 a SEND's CASES behind not are left out", this::notsLeftOut);
        sentence("IV", "KEPT SETS: up to 8 sets of FALLS", this::eightSets);
    }

    private void sixMends() {
        FallTrials x = with(ONCE);
        int[][] mends = {{0, 0}, {0, 1}, {0, 2}, {1, 0}, {2, 0}};
        for (int i = 0; i < 5; i++) granted(x, "mend " + i, x.mend(mends[i][0], mends[i][1]), i);
        x = with(Books.WIDE);
        for (int i = 0; i < 6; i++) granted(x, "mend " + i, x.mend(1, i), i);
        refused(x, "a seventh", x.mend(2, 0), 3);
        due("count(7)", x.count(7), 6);
        granted(x, "all six bits", x.fit(63), 1);
        refused(x, "a seventh bit", x.fit(64), 2);
    }

    private void rowKept() {
        FallTrials x = with(ONCE);
        thereDue(x, 2, 1, 0, 1, 0, 0, 0);
        thereDue(x, 0, 0, 1, 0, 0, 0, 0);
        x = mended(ONCE, 0, 2);
        thereDue(x, 2, 1, 0, 1, 1, 1, 1);
        thereDue(x, 0, 0, 1, 0, 0, 0, 0);
        reasonsDue(x, 2, 1, 4, 2003);
        chainDue(x, 4102, 3102, 2102, 1102, 0);
        tell(x, 212);
        reasonsDue(x, 2, 1, 4, 2001);
        tell(x, 0);
        granted(x, "in THE FORMULA, too", x.spoils(), 1);
        tell(x, 1);
        granted(x, "in THE FORMULA, too", x.spoils(), 0);
        // It is kept at each MACHINE.
        x = mended(ONCE, 0, 0);
        thereDue(x, 0, 0, 1, 1, 1, 1, 1);
        wordsDue(x, 0, 1, 1, 1, 1);
        // One that is kept already stays so.
        x = mended(ONCE, 0, 1);
        thereDue(x, 1, 0, 1, 1, 1, 1, 1);
    }

    private void sendsAgain() {
        FallTrials x = with(ONCE);
        wordsDue(x, 0, 1, 0, 0, 0);
        x = mended(ONCE, 1, 0);
        wordsDue(x, 0, 1, 1, 0, 0);
        thereDue(x, 2, 1, 0, 1, 1, 0, 0);
        reasonsDue(x, 2, 1, 2, 1001);
        // The WORD that is sent again is one like others: LOST, LATE, to one that is DOWN.
        tell(x, 0);
        wordsDue(x, 0, 2, 1, 0, 0);
        thereDue(x, 2, 1, 0, 0, 1, 0, 0);
        tell(x, 301);
        wordsDue(x, 0, 1, 3, 0, 0);
        reasonsDue(x, 2, 1, 4, 1001);
        tell(x, 1);
        wordsDue(x, 0, 1, 2, 0, 0);
        tell(x, 211);
        wordsDue(x, 0, 4, 4, 0, 0);
        // CASES behind not are CASES, too: c asks in 0 and 1, and again in 2, when it has heard.
        x = mended(Books.RETRY, 1, 0);
        wordsDue(x, 0, 1, 1, 1, 0);
    }

    private void onceAgain() {
        FallTrials x = mended(ONCE, 1, 0);
        x.last(6);
        wordsDue(x, 0, 1, 1, 0, 0, 0, 0);
        // Held in 0, in 2 and in 4: again in 1, 3 and 5.
        x = mended("machine a;machine b;row x;row z;fact x at a;rule x next if not x at a;send z to b if x at a;"
            + "promise x at a gives z at b", 1, 0);
        x.last(6);
        wordsDue(x, 0, 1, 1, 1, 1, 1, 1);
        tell(x, 200);
        // Away in 0 and 1: x comes in 3, as in 2 it isn't there, and in 5.
        thereDue(x, 0, 0, 0, 0, 0, 1, 0, 1, 0);
        wordsDue(x, 0, 0, 0, 0, 1, 1, 1);
    }

    private void notIfTheyHold() {
        // x in 0 and 1: the CASES hold in both, and the WORD of 2 is sent again; one WORD a TICK.
        FallTrials x = mended("machine a;machine b;row v;row x;row z;fact x at a;fact v at a;rule x next if v;send z to b if x at a;"
            + "promise x at a gives z at b", 1, 0);
        thereDue(x, 1, 0, 1, 1, 0, 0, 0);
        wordsDue(x, 0, 1, 1, 1, 0);
        reasonsDue(x, 2, 1, 1, 1000);
        reasonsDue(x, 2, 1, 2, 1001);
        reasonsDue(x, 2, 1, 3, 1002);
        // In the FORMULA and in a CHAIN the CASES of one that holds are those of its own TICK, of the one sent again those of 1.
        for (int tick = 1; tick <= 3; tick++) granted(x, "z in " + tick, x.stands(2, 1, tick), 1);
        tell(x, 200);
        for (int tick = 1; tick <= 3; tick++) granted(x, "z in " + tick, x.stands(2, 1, tick), 0);
        tell(x, 202);
        for (int tick = 1; tick <= 3; tick++) granted(x, "z in " + tick, x.stands(2, 1, tick), tick == 3 ? 0 : 1);
        x.last(3);
        chainDue(x, 3102, 1001, 0);
        x.last(2);
        chainDue(x, 2102, 1001, 0);
        x.last(1);
        chainDue(x, 1102, 1);
    }

    private void upInBoth() {
        // x at a in 1 alone: sent in 1, again in 2.
        String text = "machine a;machine b;row v;row x;row z;fact v at a;rule x next if v;send z to b if x at a;"
            + "promise x at a gives z at b";
        FallTrials x = mended(text, 1, 0);
        wordsDue(x, 0, 0, 1, 1, 0);
        tell(x, 202);
        wordsDue(x, 0, 0, 1, 0, 0);
        tell(x, 102);
        wordsDue(x, 0, 0, 1, 0, 0);
        tell(x, 201);
        wordsDue(x, 0, 0, 0, 0, 0);
        tell(x, 203);
        wordsDue(x, 0, 0, 1, 1, 0);
        // Held in 0, away in 1 and 2: in 3 that isn't the TICK ahead any more.
        x = mended(ONCE, 1, 0);
        tell(x, 201);
        wordsDue(x, 0, 1, 0, 0, 0);
        tell(x, 101);
        wordsDue(x, 0, 1, 0, 0, 0);
    }

    private void notInLast() {
        FallTrials x = mended(ONCE, 1, 0);
        x.last(1);
        granted(x, "word(0, 0)", x.word(0, 0), 1);
        refused(x, "in LAST", x.word(0, 1), 2);
        x.last(2);
        wordsDue(x, 0, 1, 1);
        granted(x, "it comes in LAST", x.there(2, 1, 2), 1);
        due("GOOD", x.run(), 0);
    }

    private void casesOfTheTickAhead() {
        FallTrials x = mended(ONCE, 1, 0);
        x.last(2);
        // z in LAST by the WORD of 1 alone, of the CASES of 0: x isn't there in 1.
        granted(x, "x in 1", x.there(0, 0, 1), 0);
        reasonsDue(x, 2, 1, 2, 1001);
        granted(x, "no FALLS", x.spoils(), 0);
        chainDue(x, 2102, 0);
        // b, away in 0 and 1 (210), is up in LAST; a DOWN in the TICK of sending, or ahead of it, spoils.
        int[] falls = {0, 300, 210, 1, 301, 101, 201, 100, 200, 111, 110, 211};
        int[] due = {0, 0, 0, 1, 1, 1, 1, 1, 1, 1, 1, 1};
        for (int i = 0; i < falls.length; i++) {
            tell(x, falls[i]);
            granted(x, "spoils() by " + falls[i], x.spoils(), due[i]);
            granted(x, "z in 2 by " + falls[i], x.stands(2, 1, 2), 1 - due[i]);
        }
        // x comes to a in 1 by a WORD of c; a says z in 1, and again in 2. Without that WORD none of them stands.
        x = mended("machine a;machine b;machine c;row v;row x;row w kept;row z;fact v at c;fact w at b;send z to b if x at a;"
            + "send x to a if v at c;promise w at b gives z at b", 1, 0);
        x.last(3);
        wordsDue(x, 0, 0, 1, 1);
        granted(x, "no FALLS", x.spoils(), 0);
        chainDue(x, 3103, 1001, 200);
        tell(x, 10);
        granted(x, "the WORD of c lost", x.spoils(), 1);
        tell(x, 1);
        granted(x, "the first WORD of a lost", x.spoils(), 0);
        tell(x, 200);
        granted(x, "a away in 0 and 1: x doesn't stand in 1", x.spoils(), 1);
        tell(x, 102);
        granted(x, "a down in the TICK of sending", x.spoils(), 1);
    }

    private void notsLeftOut() {
        FallTrials x = with(Books.RETRY);
        wordsDue(x, 0, 1, 1, 0, 0);
        x = mended(Books.RETRY, 2, 0);
        wordsDue(x, 0, 1, 1, 1, 1);
        wordsDue(x, 1, 0, 1, 1, 1);
        reasonsDue(x, 2, 1, 4, 1003, 2003);
        // Those that aren't behind not stay.
        x = mended(ONCE, 2, 0);
        wordsDue(x, 0, 1, 0, 0, 0);
        // Where all are, it sends whenever it isn't DOWN.
        String text = "machine a;machine b;row x kept;row y kept;row z;fact x at a;send z to b if not x and not y at a;"
            + "promise x at a gives z at b";
        x = with(text);
        wordsDue(x, 0, 0, 0, 0, 0);
        x = mended(text, 2, 0);
        wordsDue(x, 0, 1, 1, 1, 1);
        chainDue(x, 4102);
        tell(x, 201);
        wordsDue(x, 0, 1, 0, 0, 1);
        granted(x, "the WORD of 3 stands", x.spoils(), 0);
        tell(x, 202);
        granted(x, "a down in 3", x.spoils(), 1);
        // With FORM 1, too: what held without them held.
        x = with(Books.RETRY);
        x.mend(2, 0);
        x.mend(1, 0);
        x.make(3);
        wordsDue(x, 0, 1, 1, 1, 1);
        x = with("machine a;machine b;row x;row y;row z;fact x at a;fact y at a;send z to b if x and not y at a;"
            + "promise x at a gives z at b");
        x.mend(1, 0);
        x.mend(2, 0);
        granted(x, "both", x.make(3), 2);
        wordsDue(x, 0, 1, 1, 0, 0);
        reasonsDue(x, 2, 1, 2, 1001);
    }

    private void eightSets() {
        FallTrials x = with(Books.PAIR);
        for (int i = 1; i <= 8; i++) {
            tell(x, i <= 4 ? i - 1 : 300 + i - 5);
            granted(x, "set " + i, x.keep(), i);
        }
        refused(x, "a ninth", x.keep(), 3);
        due("count(8)", x.count(8), 8);
        // The eighth is one of them: the word of 3 late breaks it, as does the one lost.
        due("fit(0)", x.fit(0), 0);
    }

    // ------------------------------------------------------------------ fit, least

    private void fitAndLeast() {
        sentence("IV", "A set of MENDS is FIT if with them the RUN without FALLS is GOOD", this::goodWithout);
        sentence("IV", "and the RUNS of all KEPT SETS aren't BROKEN", this::keptNotBroken);
        sentence("IV", "LEAST: the FIT set of fewest MENDS, of as few the lesser number as bits.", this::fewestMends);
    }

    private void goodWithout() {
        // BROKEN without FALLS, though no set is kept.
        FallTrials x = with(ONCE);
        x.mend(0, 2);
        x.mend(1, 0);
        granted(x, "BROKEN", x.fit(0), 0);
        granted(x, "GOOD by the first", x.fit(1), 1);
        granted(x, "BROKEN with the second", x.fit(2), 0);
        granted(x, "GOOD by both", x.fit(3), 1);
        // IDLE without: a MEND may make it GOOD, or BROKEN.
        x = with("machine a;row x;row y;fact x at a;fact y at a;promise x at a gives y at a");
        x.mend(0, 0);
        x.mend(0, 1);
        granted(x, "IDLE", x.fit(0), 0);
        granted(x, "BROKEN", x.fit(1), 0);
        granted(x, "IDLE", x.fit(2), 0);
        granted(x, "GOOD", x.fit(3), 1);
        // The FALLS told have no part in it.
        x = with(Books.PAIR);
        tell(x, 3);
        due("BROKEN", x.run(), 2);
        granted(x, "GOOD without", x.fit(0), 1);
    }

    private void keptNotBroken() {
        FallTrials x = with(Books.LOGS);
        granted(x, "none are kept", x.fit(0), 1);
        keep(x, 0, 100);
        granted(x, "an IDLE one", x.fit(0), 1);
        keep(x, 0);
        granted(x, "a GOOD one", x.fit(0), 1);
        x.mend(1, 0);
        x.mend(1, 1);
        keep(x, 0, 120);
        int[] one = {0, 1, 0, 1};
        for (int bits = 0; bits < 4; bits++) granted(x, "fit " + bits, x.fit(bits), one[bits]);
        keep(x, 10, 110);
        int[] both = {0, 0, 0, 1};
        for (int bits = 0; bits < 4; bits++) granted(x, "fit " + bits, x.fit(bits), both[bits]);
        // The one that is sent again is lost, too.
        keep(x, 0, 1, 120);
        for (int bits = 0; bits < 4; bits++) granted(x, "fit " + bits, x.fit(bits), 0);
    }

    private void fewestMends() {
        FallTrials x = with(Books.LOGS);
        // 1 and 8 are of no use; 2 and 4 send again; 16 keeps put: c asks in each TICK.
        x.mend(0, 1);
        x.mend(1, 0);
        x.mend(1, 1);
        x.mend(2, 0);
        granted(x, "none are kept", x.least(), 0);
        keep(x, 0, 10);
        granted(x, "either does", x.least(), 2);
        keep(x, 10, 110);
        granted(x, "the second", x.least(), 4);
        keep(x, 0, 120);
        granted(x, "both", x.least(), 6);
        x.mend(0, 0);
        granted(x, "one of a greater number", x.least(), 16);
        keep(x, 0, 1, 2, 3, 120);
        refused(x, "none", x.least(), 6);
    }

    // ------------------------------------------------------------------ trouble

    private void trouble() {
        sentence("V", "TROUBLE of the latest call that may be refused (those of which a number is told here)", this::latestCall);
        sentence("V", "0 it wasn't", this::troubleNone);
        sentence("V", "1 there is none such; 2 a number; 3 no room; 4 a FAULT; 5 not so; 6 there is no way.", this::troubleNumbers);
    }

    private void latestCall() {
        FallTrials x = with(Books.PAIR);
        refused(x, "last(7)", x.last(7), 2);
        x.count(99);
        x.told(99);
        x.found(99);
        x.exactly(99);
        x.fault();
        x.where();
        x.tried();
        x.known();
        x.thinness();
        x.clear();
        x.count(0);
        for (int i = 0; i < 36; i++) x.feed(0, 0, 0, 0, 0);
        throwsNone("reason()", () -> x.reason(9, 9, 9, 9));
        throwsNone("led()", () -> x.led(9));
        due("led(0)", x.led(0), 4101);
        due("reason()", x.reason(1, 1, 1, 0), 1000);
        due("calls without a number leave it", x.trouble(), 2);
        due("and so does trouble()", x.trouble(), 2);
        granted(x, "the latest of two", x.run(), 0);
    }

    /** Each call that may be refused, when it isn't. */
    private void troubleNone() {
        FallTrials x = new FallTrials();
        due("a new object", x.trouble(), 0);
        Feeder.feed(x, Books.STARTS);
        refusedOnce(x);
        granted(x, "book", x.book(Books.STARTS.length()), 2);
        refusedOnce(x);
        granted(x, "last", x.last(1));
        refusedOnce(x);
        granted(x, "purse", x.purse(0, 2));
        refusedOnce(x);
        granted(x, "fall", x.fall(0, 0, 0), 1);
        refusedOnce(x);
        granted(x, "run", x.run(), 0);
        refusedOnce(x);
        granted(x, "there", x.there(0, 0, 0), 1);
        refusedOnce(x);
        granted(x, "reasons", x.reasons(0, 0, 0), 1);
        refusedOnce(x);
        granted(x, "word", x.word(0, 0), 2);
        refusedOnce(x);
        granted(x, "differs", x.differs(0), -2);
        refusedOnce(x);
        granted(x, "spoils", x.spoils(), 0);
        refusedOnce(x);
        granted(x, "stands", x.stands(0, 0, 0), 1);
        refusedOnce(x);
        granted(x, "trial", x.trial(100), 1);
        refusedOnce(x);
        granted(x, "exact", x.exact() > 0);
        refusedOnce(x);
        x.fall(0, 1, 0);
        granted(x, "cut", x.cut(), 2);
        refusedOnce(x);
        granted(x, "keep", x.keep(), 1);
        refusedOnce(x);
        granted(x, "start", x.start(0));
        refusedOnce(x);
        granted(x, "thin", x.thin(), 0);
        refusedOnce(x);
        granted(x, "mend", x.mend(0, 0), 0);
        refusedOnce(x);
        granted(x, "fit", x.fit(0), 0);
        refusedOnce(x);
        x.last(2);
        granted(x, "least", x.least(), 0);
        refusedOnce(x);
        granted(x, "make", x.make(1), 1);
    }

    private void refusedOnce(FallTrials x) {
        refused(x, "book(-1)", x.book(-1), 2);
    }

    private void troubleNumbers() {
        FallTrials x = new FallTrials();
        refused(x, "1: no BOOK", x.run(), 1);
        refused(x, "2: more than the tape has", x.book(1), 2);
        refused(x, "4: a FAULT", x.book(0), 4);
        Feeder.tell(x, Books.IDLE_BOOK);
        refused(x, "5: not GOOD", x.trial(1), 5);
        refused(x, "6: no START", x.thin(), 6);
        refused(x, "6: no MENDS", x.least(), 6);
        x = with(Books.PAIR);
        for (int i = 0; i < 6; i++) granted(x, "fall", x.fall(i % 4, 0, i / 4), i + 1);
        refused(x, "3: no room", x.fall(2, 1, 3), 3);
    }

    // ------------------------------------------------------------------ promises 30 to 33

    private void mendCalls() {
        sentence("30", "A MEND of a FORM for a ROW (FORM 0) or a SEND: its number.", this::mendAnswers);
        sentence("30", "NONE: 1 (FORM too)", this::mendOfNone);
        sentence("30", "5 (it is one already)", this::mendTwice);
        sentence("30", "3.", this::mendsFull);
        sentence("31", "The FALLS told are a KEPT SET: how many there are.", this::keepAnswers);
        sentence("31", "NONE: 1 (no BOOK); 5 (no FALLS are told); 3.", this::keepRefused);
        sentence("32", "Whether a set of MENDS (as bits) is FIT: 1, 0.", this::fitAnswers);
        sentence("32", "NONE: 1 (no BOOK); 2 (bits of MENDS that there aren't).", this::fitRefused);
        sentence("33", "LEAST as bits.", this::leastAnswers);
        sentence("33", "NONE: 1 (no BOOK); 6.", this::leastRefused);
    }

    private void mendAnswers() {
        FallTrials x = with(Books.RETRY);
        granted(x, "a ROW", x.mend(0, 2), 0);
        granted(x, "a SEND", x.mend(1, 1), 1);
        granted(x, "a SEND", x.mend(2, 1), 2);
        granted(x, "a ROW", x.mend(0, 0), 3);
        due("count(7)", x.count(7), 4);
        due("told alone it changes no RUN", x.word(0, 2), 0);
    }

    private void mendOfNone() {
        FallTrials x = new FallTrials();
        for (int form = 0; form < 3; form++) refused(x, "no BOOK", x.mend(form, 0), 1);
        x = with(Books.RETRY);
        for (int form : new int[] {-1, 3, LEAST, MOST}) refused(x, "form " + form, x.mend(form, 0), 1);
        for (int which : new int[] {-1, 3, 10, LEAST, MOST}) refused(x, "row " + which, x.mend(0, which), 1);
        for (int which : new int[] {-1, 2, 6, LEAST, MOST}) {
            refused(x, "send " + which, x.mend(1, which), 1);
            refused(x, "send " + which, x.mend(2, which), 1);
        }
        granted(x, "the last ROW", x.mend(0, 2), 0);
        granted(x, "the last SEND", x.mend(1, 1), 1);
        granted(x, "the last SEND", x.mend(2, 1), 2);
        x = with("machine a;row x;promise x at a gives x at a");
        refused(x, "no SENDS", x.mend(1, 0), 1);
        refused(x, "no SENDS", x.mend(2, 0), 1);
        granted(x, "its ROW", x.mend(0, 0), 0);
    }

    private void mendTwice() {
        FallTrials x = with(Books.RETRY);
        for (int form = 0; form < 3; form++) {
            granted(x, "once", x.mend(form, 1), form);
            refused(x, "twice", x.mend(form, 1), 5);
        }
        due("count(7)", x.count(7), 3);
        x.make(0);
        granted(x, "told no more", x.mend(1, 1), 0);
        x.make(1);
        granted(x, "made, but told no more", x.mend(1, 1), 0);
        refused(x, "twice", x.mend(1, 1), 5);
    }

    private void mendsFull() {
        FallTrials x = with(Books.WIDE);
        for (int i = 0; i < 6; i++) granted(x, "mend", x.mend(1 + i % 2, i), i);
        refused(x, "a seventh", x.mend(0, 0), 3);
        refused(x, "5 is ahead of 3", x.mend(1, 0), 5);
        refused(x, "1 is ahead of 3", x.mend(1, 6), 1);
        x.make(0);
        granted(x, "room again", x.mend(0, 0), 0);
    }

    private void keepAnswers() {
        FallTrials x = with(Books.PAIR);
        tell(x, 0, 1, 2, 3, 100, 110);
        granted(x, "six FALLS", x.keep(), 1);
        granted(x, "the same once more", x.keep(), 2);
        due("they are told still", x.count(6), 6);
        tell(x, 3);
        granted(x, "another", x.keep(), 3);
        due("count(8)", x.count(8), 3);
        // What is kept stays as it was, whatever is told then: a BROKEN one.
        x = with(Books.PAIR);
        tell(x, 0, 3);
        x.keep();
        x.cut();
        toldDue(x, 3);
        x.clear();
        granted(x, "fit(0)", x.fit(0), 0);
        tell(x, 3, 103);
        granted(x, "fit(0)", x.fit(0), 0);
        x.mend(0, 1);
        granted(x, "y kept: that of 1 is there", x.fit(1), 1);
    }

    private void keepRefused() {
        FallTrials x = new FallTrials();
        refused(x, "no BOOK", x.keep(), 1);
        x = with(Books.PAIR);
        refused(x, "no FALLS", x.keep(), 5);
        x.fall(0, 0, 0);
        for (int i = 1; i <= 8; i++) granted(x, "keep()", x.keep(), i);
        refused(x, "a ninth", x.keep(), 3);
        x.clear();
        refused(x, "5 is ahead of 3", x.keep(), 5);
        x.last(4);
        refused(x, "last() has cleared both", x.keep(), 5);
        x.fall(0, 0, 0);
        granted(x, "room again", x.keep(), 1);
    }

    private void fitAnswers() {
        FallTrials x = with(Books.RETRY);
        granted(x, "no MENDS, no KEPT SETS", x.fit(0), 1);
        keep(x, 0, 1, 2, 3);
        granted(x, "all WORDS lost", x.fit(0), 0);
        for (int i = 0; i < 2; i++) x.mend(1 + i, 0);
        for (int bits = 0; bits < 4; bits++) granted(x, "no MEND helps", x.fit(bits), 0);
        due("MENDS are told still", x.count(7), 2);
        wordsDue(x, 0, 1, 1, 0, 0);
        // By THE START that there is.
        x = with("machine a;machine b;row x kept;row w;row z kept;fact x at a;fact w at a maybe;send z to b if x and w at a;"
            + "promise x at a gives z at b");
        granted(x, "GOOD", x.fit(0), 1);
        x.start(0);
        granted(x, "BROKEN", x.fit(0), 0);
    }

    private void fitRefused() {
        FallTrials x = new FallTrials();
        for (int bits : new int[] {0, 1, -1}) refused(x, "no BOOK", x.fit(bits), 1);
        x = with(Books.LOGS);
        for (int told = 0; told <= 2; told++) {
            granted(x, "all there are", x.fit((1 << told) - 1), 1);
            for (int bits : new int[] {1 << told, (1 << told) + 1, 64, -1, LEAST, MOST}) {
                if (bits >= 1 << told || bits < 0) refused(x, "fit(" + bits + ")", x.fit(bits), 2);
            }
            x.mend(1, told % 2);
        }
    }

    private void leastAnswers() {
        FallTrials x = with(ONCE);
        x.mend(1, 0);
        x.mend(0, 1);
        x.mend(0, 2);
        x.mend(0, 0);
        granted(x, "z kept, or x: the lesser", x.least(), 4);
        due("MENDS are told still", x.count(7), 4);
        due("none is made", x.run(), 2);
        keep(x, 0);
        granted(x, "x kept: it asks in 1, 2 and 3", x.least(), 8);
        keep(x, 0, 3);
        granted(x, "z sent again and kept, or both kept: of as few the lesser", x.least(), 5);
        x = with(Books.PAIR);
        granted(x, "none are told, none needed", x.least(), 0);
    }

    private void leastRefused() {
        FallTrials x = new FallTrials();
        refused(x, "no BOOK", x.least(), 1);
        x = with(Books.LOST_CAUSE);
        refused(x, "no MENDS", x.least(), 6);
        x.mend(0, 1);
        refused(x, "y never comes", x.least(), 6);
        x = with(Books.PAIR);
        keep(x, 110);
        x.mend(0, 1);
        x.mend(1, 0);
        x.mend(2, 0);
        refused(x, "b is down", x.least(), 6);
        x.last(4);
        granted(x, "no KEPT SETS", x.least(), 0);
    }

    // ------------------------------------------------------------------ promises 34 to 36

    private void makeCalls() {
        sentence("34", "A set of MENDS is made in the BOOK", this::madeInTheBook);
        sentence("34", "(all RUNS from now on are with it; no MENDS are told any more): how many", this::fromNowOn);
        sentence("34", "NONE: 1 (no BOOK); 2.", this::makeRefused);
    }

    private void madeInTheBook() {
        FallTrials x = mended(ONCE, 0, 2);
        due("GOOD", x.run(), 0);
        x.last(6);
        due("behind last()", x.run(), 0);
        x.start(0);
        due("behind start()", x.run(), 0);
        refused(x, "a FAULT", Feeder.tell(x, "row"), 4);
        due("behind a FAULT", x.run(), 0);
        Feeder.tell(x, ONCE);
        due("in another BOOK it isn't", x.run(), 2);
        thereDue(x, 2, 1, 0, 1, 0, 0, 0);
        // One upon the other.
        x = mended(ONCE, 1, 0);
        wordsDue(x, 0, 1, 1, 0, 0);
        x.mend(0, 2);
        granted(x, "another", x.make(1), 1);
        wordsDue(x, 0, 1, 1, 0, 0);
        thereDue(x, 2, 1, 0, 1, 1, 1, 1);
    }

    private void fromNowOn() {
        FallTrials x = with(Books.LOGS);
        keep(x, 0, 120);
        tell(x, 0, 120);
        x.mend(1, 0);
        x.mend(1, 1);
        x.mend(0, 0);
        granted(x, "two of three", x.make(3), 2);
        due("no MENDS", x.count(7), 0);
        refused(x, "fit(1)", x.fit(1), 2);
        due("FALLS stay", x.count(6), 2);
        due("KEPT SETS stay", x.count(8), 1);
        due("run()", x.run(), 0);
        granted(x, "fit(0)", x.fit(0), 1);
        granted(x, "least()", x.least(), 0);
        due("put isn't kept", x.there(0, 0, 1), 0);
        // Both WORDS of 0 lost, and both of 1: two of each SEND are needed.
        due("exact(): one WORD lost, one MACHINE down", x.exact(), 0);
        due("trial()", x.trial(100), 0);
        granted(x, "none", x.make(0), 0);
        x.mend(2, 0);
        granted(x, "make(0) with one told", x.make(0), 0);
        due("it isn't told any more", x.count(7), 0);
        due("what was made stays made", x.run(), 0);
        x.mend(1, 0);
        granted(x, "made already", x.make(1), 1);
        due("run()", x.run(), 0);
        x = with(Books.WIDE);
        for (int i = 0; i < 6; i++) x.mend(1, i);
        granted(x, "all six", x.make(63), 6);
    }

    private void makeRefused() {
        FallTrials x = new FallTrials();
        for (int bits : new int[] {0, 1, -1}) refused(x, "no BOOK", x.make(bits), 1);
        x = with(ONCE);
        for (int bits : new int[] {1, 64, -1, LEAST, MOST}) refused(x, "no MENDS", x.make(bits), 2);
        x.mend(0, 2);
        for (int bits : new int[] {2, 3, 64, -1, LEAST, MOST}) {
            refused(x, "make(" + bits + ")", x.make(bits), 2);
            due("MENDS stay", x.count(7), 1);
            due("none is made", x.run(), 2);
        }
        granted(x, "make(1)", x.make(1), 1);
    }

    private void counts() {
        sentence("35", "0 MACHINES, 1 ROWS, 2 FACTS (maybe too), 3 RULES, 4 SENDS, 5 LAST, 6 FALLS told, 7 MENDS, 8 KEPT SETS, "
            + "9 ALL FALLS (how many), 10 SETS of THE PURSE (how many), 11 FACTS maybe, 12 THE START, 13 bytes of THE TAPE.",
            this::countAnswers);
        sentence("35", "NONE for others", this::countOthers);
        sentence("35", "0 for what there isn't.", this::countNothing);
    }

    private void countAnswers() {
        FallTrials x = with("machine a;machine b;machine c;row x kept;row y;row z;row w;fact x at a;fact y at a maybe;fact z at b;"
            + "fact z at c maybe;fact w at c maybe;rule z now if y;rule w next if not z;rule w next if x at a;"
            + "send y to b if x at a;send y to c if x at a;promise x at a gives y at b");
        x.last(5);
        tell(x, 0, 110);
        x.keep();
        x.keep();
        x.keep();
        x.mend(0, 1);
        x.start(5);
        purse(x, 1, 0, 2, 0);
        for (int i = 0; i < 3; i++) x.feed(0, 0, 0, 0, 0);
        int sets = 11 * (1 + 15 + 105) - 1;
        int[] due = {3, 4, 5, 3, 2, 5, 2, 1, 3, 10 + 15, sets, 3, 5, 60};
        for (int what = 0; what < due.length; what++) due("count(" + what + ")", x.count(what), due[what]);
    }

    private void countOthers() {
        for (FallTrials x : new FallTrials[] {new FallTrials(), with(Books.PAIR)}) {
            for (int what : new int[] {-1, 14, 15, 100, LEAST, MOST}) due("count(" + what + ")", x.count(what), -1);
        }
    }

    private void countNothing() {
        FallTrials x = new FallTrials();
        for (int what = 0; what <= 13; what++) due("no BOOK: count(" + what + ")", x.count(what), 0);
        x.feed(0, 0, 0, 0, 0);
        due("THE TAPE there is", x.count(13), 20);
        x = with("machine a;row x;promise x at a gives x at a");
        int[] due = {1, 1, 0, 0, 0, 4, 0, 0, 0, 4, 4, 0, 0, 0};
        for (int what = 0; what <= 13; what++) due("a small BOOK: count(" + what + ")", x.count(what), due[what]);
        x = with("row x;machine a;promise x at a gives x at a");
        purse(x, 0, 0, 0, 3);
        due("no SENDS, no FALLS", x.count(9), 0);
        due("nor SETS", x.count(10), 0);
    }

    private void troubleCalls() {
        sentence("36", "TROUBLE.", this::troubleAnswers);
    }

    private void troubleAnswers() {
        FallTrials x = new FallTrials();
        due("a new object", x.trouble(), 0);
        x.run();
        due("no BOOK", x.trouble(), 1);
        Feeder.tell(x, "machine");
        due("a FAULT", x.trouble(), 4);
        Feeder.tell(x, Books.PAIR);
        due("a BOOK", x.trouble(), 0);
        for (int i = 0; i < 6; i++) x.fall(i % 4, 0, i / 4);
        x.fall(2, 1, 3);
        due("six FALLS", x.trouble(), 3);
        due("asked again", x.trouble(), 3);
        x.fall(2, 1, 4);
        due("no such TICK", x.trouble(), 2);
        x.fall(0, 0, 0);
        due("told already", x.trouble(), 5);
        x.mend(3, 0);
        due("no such FORM", x.trouble(), 1);
        purse(x, 0, 0, 0, 0);
        x.thin();
        due("no SETS", x.trouble(), 6);
        x.count(0);
        due("count() is never refused", x.trouble(), 6);
        x.differs(0);
        due("differs()", x.trouble(), 0);
    }

    // ------------------------------------------------------------------ the constant, the calls of an object

    private void objects() {
        sentence("constants", "`NONE = -1`: There is none; refused.", this::none);
        sentence("what it is", "An object is used for at most 512 calls after it has been made", this::manyCalls);
    }

    private void none() {
        due("NONE", FallTrials.NONE, -1);
        FallTrials x = new FallTrials();
        due("refused", x.run(), FallTrials.NONE);
        due("there is none", x.found(0), FallTrials.NONE);
    }

    /** The dearest calls, 512 of them in all: the last ones answer as the first. */
    private void manyCalls() {
        FallTrials x = new FallTrials();
        int calls = 1;
        Feeder.feed(x, Books.LOGS);
        calls += (Books.LOGS.length() + 19) / 20;
        x.book(Books.LOGS.length());
        while (calls + 8 <= 512) {
            due("trial()", x.trial(100), 1);
            due("found(1)", x.found(1), 120);
            due("exact()", x.exact(), 8);
            due("thin()", x.thin(), 0);
            due("thinness()", x.thinness(), 1);
            due("fall()", x.fall(0, 0, 0), 1);
            due("there(2, 1, 4)", x.there(2, 1, 4), 0);
            due("clear()", x.clear(), 1);
            calls += 8;
        }
        while (calls < 512) {
            due("run()", x.run(), 0);
            calls++;
        }
    }
}
