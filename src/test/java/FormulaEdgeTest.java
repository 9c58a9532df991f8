/** Sentences that name an edge: formulas, trials, purses (III), promises 16 to 29. */
public final class FormulaEdgeTest extends Edges {
    /** a says y to b as long as x isn't there, and it never is. */
    private static final String UNASKED = "machine a;machine b;row x;row y;row w kept;fact w at b;send y to b if not x at a;"
        + "promise w at b gives y at b";
    /** Never broken: what is asked for is what was given. Only a's being down spoils it, and then it is idle. */
    private static final String SAFE = "machine a;machine b;row x kept;fact x at a;" + "send x to b if x at a;".repeat(6)
        + "promise x at a gives x at a";
    /** One word alone brings z; with LAST 2 it is lost by losing the words of 0 and 1, or by b's being down. */
    private static final String HELD = "machine a;machine b;row x kept;row z kept;fact x at a;send z to b if x at a;"
        + "promise x at a gives z at b";

    /** t at b goes on by y and z, words of each tick, or without one that doesn't come: then no FORMULA wants that one. */
    private static final String BOTH = "machine a;machine b;row x kept;row y;row z;row p;row q;row t;fact x at a;fact t at b;"
        + "send y to b if x at a;send z to b if x at a;rule p next if t and y;rule p next if t and not y;"
        + "rule q next if t and z;rule q next if t and not z;rule t now if p and q;promise x at a gives t at b";

    /** The same with v in the way without: v comes by three words of TICK 0; u, a word of TICK 0, matters where y of 0 is lost. */
    private static final String BESIDE = "machine a;machine b;row x kept;row y;row z;row p;row q;row t;row v kept;row w;row u;row m;"
        + "fact x at a;fact w at a;fact t at b;fact y at b;fact z at b;send y to b if x at a;send z to b if x at a;"
        + "send u to b if w at a;send v to b if w at a;send v to b if w at a;send v to b if w at a;rule p next if t and y;"
        + "rule p next if m and u and not y;rule p next if m and not u and not y;rule q next if t and z;"
        + "rule q next if m and not z;rule m now if t and v;rule t now if p and q;promise x at a gives t at b";

    public static void main(String[] args) {
        FormulaEdgeTest test = new FormulaEdgeTest();
        test.standing();
        test.spoiling();
        test.purses();
        test.trials();
        test.exactAndCut();
        test.thinStarts();
        test.chains();
        test.spoilsAndStands();
        test.trialCalls();
        test.exactCalls();
        test.startCalls();
        test.end("III", "16", "17", "18", "19", "20", "21", "22", "23", "24", "25", "26", "27", "28", "29");
    }

    /** From TICK 0 on; -1: the ROW isn't there. */
    private void standsDue(FallTrials x, int row, int machine, int... want) {
        due("LAST", x.count(5), want.length - 1);
        for (int tick = 0; tick < want.length; tick++) {
            String what = "stands(" + row + ", " + machine + ", " + tick + ")";
            if (want[tick] < 0) refused(x, what, x.stands(row, machine, tick), 5);
            else granted(x, what, x.stands(row, machine, tick), want[tick]);
        }
    }

    // ------------------------------------------------------------------ formulas

    private void standing() {
        sentence("III", "THE FORMULA of a RUN that is not BROKEN", this::notBroken);
        sentence("III", "a ROW that is there in the RUN STANDS if one of its REASONS does", this::oneReason);
        sentence("III", "and its MACHINE isn't DOWN by them in that TICK", this::machineUp);
        sentence("III", "a FACT does", this::factStands);
        sentence("III", "a WORD if it is neither LOST nor LATE by them", this::wordNotHit);
        sentence("III", "and the MACHINE that sent it isn't DOWN by them in the TICK of sending", this::senderUp);
        sentence("III", "where all ROWS of its CASES (not those behind not) stand", this::rowsOfTheSending);
        sentence("III", "KEPT if the ROW stands in the TICK that it was kept from", this::keptStands);
        sentence("III", "NEXT if the MACHINE isn't DOWN by them in the TICK ahead, where all ROWS of its CASES (likewise) stand",
            this::nextStands);
        sentence("III", "NOW if all its ROWS stand (what stands by itself alone, round about, doesn't)", this::nowStands);
    }

    private void notBroken() {
        FallTrials x = with(Books.LOST_CAUSE);
        refused(x, "of a BROKEN one", x.spoils(), 5);
        x.fall(1, 0, 0);
        granted(x, "the FALLS told make it IDLE", x.run(), 1);
        refused(x, "it is of the RUN without", x.spoils(), 5);
        x = with(Books.IDLE_BOOK);
        granted(x, "of an IDLE one", x.spoils(), 1);
        x = with(Books.PAIR);
        granted(x, "of a GOOD one", x.spoils(), 0);
    }

    private void oneReason() {
        FallTrials x = with(Books.TWICE);
        x.fall(0, 0, 0);
        standsDue(x, 1, 1, -1, 1, 1, 1, 1);
        x.fall(0, 1, 0);
        standsDue(x, 1, 1, -1, 0, 1, 1, 1);
        // By a WORD, kept, or by a RULE: any of them.
        x = with("machine a;machine b;row x kept;row z kept;fact x at a;fact x at b;send z to b if x at a;rule z next if x at b;"
            + "promise x at a gives z at b");
        x.fall(1, 0, 0);
        standsDue(x, 1, 1, -1, 1, 1, 1, 1);
        standsDue(x, 0, 0, 0, 0, 0, 0, 0);
    }

    private void machineUp() {
        FallTrials x = with(Books.PAIR);
        x.fall(2, 1, 1);
        standsDue(x, 1, 1, -1, 0, 0, 1, 1);
        standsDue(x, 0, 0, 1, 1, 1, 1, 1);
        x.clear();
        x.fall(1, 1, 2);
        standsDue(x, 1, 1, -1, 1, 0, 0, 0);
        x.clear();
        x.fall(1, 1, 3);
        standsDue(x, 1, 1, -1, 1, 1, 0, 0);
    }

    private void factStands() {
        FallTrials x = with(Books.PAIR);
        for (int tick = 0; tick < 4; tick++) x.fall(0, 0, tick);
        x.fall(1, 1, 0);
        standsDue(x, 0, 0, 1, 1, 1, 1, 1);
        x.clear();
        x.fall(2, 0, 0);
        standsDue(x, 0, 0, 0, 0, 0, 0, 0);
        x.clear();
        x.fall(2, 0, 1);
        standsDue(x, 0, 0, 1, 0, 0, 0, 0);
    }

    private void wordNotHit() {
        FallTrials x = with(Books.PAIR);
        x.fall(0, 0, 0);
        standsDue(x, 1, 1, -1, 0, 1, 1, 1);
        x.clear();
        x.fall(3, 0, 0);
        standsDue(x, 1, 1, -1, 0, 1, 1, 1);
        x.fall(0, 0, 2);
        standsDue(x, 1, 1, -1, 0, 1, 0, 1);
        due("truly run, the late one comes in 3", x.there(1, 1, 3), 1);
        x.fall(3, 0, 2);
        standsDue(x, 1, 1, -1, 0, 1, 0, 1);
    }

    private void senderUp() {
        FallTrials x = with(UNASKED);
        x.fall(2, 0, 1);
        standsDue(x, 1, 1, -1, 1, 0, 0, 1);
        x.clear();
        x.fall(1, 0, 3);
        standsDue(x, 1, 1, -1, 1, 1, 1, 0);
        x.clear();
        x.fall(2, 0, 0);
        standsDue(x, 1, 1, -1, 0, 0, 1, 1);
    }

    private void rowsOfTheSending() {
        FallTrials x = with("machine a;machine b;machine c;row p;row q kept;row y;row n;fact q at a;fact q at c;"
            + "send p to a if q at c;send y to b if p and q and not n at a;promise q at a gives y at b");
        standsDue(x, 2, 1, -1, -1, 1, 1, 1);
        x.fall(0, 0, 0);
        standsDue(x, 0, 0, -1, 0, 1, 1, 1);
        standsDue(x, 2, 1, -1, -1, 0, 1, 1);
        // In the TICK of sending, not in that of coming.
        x.clear();
        x.fall(0, 0, 1);
        standsDue(x, 0, 0, -1, 1, 0, 1, 1);
        standsDue(x, 2, 1, -1, -1, 1, 0, 1);
        // p stands from 2 on, but q, kept from what was away, doesn't.
        x.clear();
        x.fall(2, 0, 0);
        standsDue(x, 0, 0, -1, 0, 1, 1, 1);
        standsDue(x, 1, 0, 0, 0, 0, 0, 0);
        standsDue(x, 2, 1, -1, -1, 0, 0, 0);
    }

    private void keptStands() {
        FallTrials x = with(HELD);
        x.fall(0, 0, 0);
        standsDue(x, 1, 1, -1, 0, 1, 1, 1);
        x.fall(0, 0, 1);
        standsDue(x, 1, 1, -1, 0, 0, 1, 1);
        x.fall(3, 0, 2);
        standsDue(x, 1, 1, -1, 0, 0, 0, 1);
        x.fall(0, 0, 3);
        standsDue(x, 1, 1, -1, 0, 0, 0, 0);
        // Kept from TICK to TICK: over one in which its MACHINE is away nothing is kept.
        x.clear();
        x.fall(2, 0, 1);
        standsDue(x, 0, 0, 1, 0, 0, 0, 0);
        standsDue(x, 1, 1, -1, 1, 1, 1, 1);
        x.fall(2, 1, 2);
        standsDue(x, 1, 1, -1, 1, 0, 0, 0);
        due("truly run, it is kept over it", x.there(1, 1, 4), 1);
    }

    private void nextStands() {
        FallTrials x = with("machine a;row x kept;row y;fact x at a;rule y next if not y;promise x at a gives x at a");
        standsDue(x, 1, 0, -1, 1, -1, 1, -1);
        x.fall(2, 0, 0);
        standsDue(x, 1, 0, -1, 0, -1, 1, -1);
        x.clear();
        x.fall(2, 0, 1);
        standsDue(x, 1, 0, -1, 0, -1, 0, -1);
        x.clear();
        x.fall(1, 0, 2);
        standsDue(x, 1, 0, -1, 1, -1, 0, -1);
        x = with("machine a;machine b;row x kept;row y;row w kept;row z;row n;fact x at a;fact w at b;send y to b if x at a;"
            + "rule z next if y and w and not n;promise x at a gives y at b");
        standsDue(x, 3, 1, -1, -1, 1, 1, 1);
        x.fall(0, 0, 0);
        standsDue(x, 3, 1, -1, -1, 0, 1, 1);
        x.fall(0, 0, 2);
        standsDue(x, 3, 1, -1, -1, 0, 1, 0);
    }

    private void nowStands() {
        FallTrials x = with("machine a;machine b;row x kept;row y;row z;row w;row v;row u;fact x at a;fact x at b;"
            + "rule w now if w;rule z now if y;rule y now if z;rule w now if y and z;rule v now if x and z;rule u now if x;"
            + "send y to b if x at a;promise x at a gives y at b");
        x.last(1);
        for (int row = 1; row <= 4; row++) standsDue(x, row, 1, -1, 1);
        standsDue(x, 5, 1, 1, 1);
        x.fall(0, 0, 0);
        for (int row = 1; row <= 4; row++) standsDue(x, row, 1, -1, 0);
        standsDue(x, 5, 1, 1, 1);
        // All of a chain told backwards.
        x = with("machine a;row p;row q;row r;row s;row t;fact p at a;rule t now if s and p;rule s now if r and q;"
            + "rule r now if q;rule q now if p;promise p at a gives t at a");
        for (int row = 0; row < 5; row++) granted(x, "row " + row, x.stands(row, 0, 0), 1);
        x.fall(1, 0, 0);
        for (int row = 0; row < 5; row++) granted(x, "row " + row, x.stands(row, 0, 0), 0);
    }

    private void spoiling() {
        sentence("III", "FALLS SPOIL it if no PLACE behind gives that holds in the RUN stands in LAST", this::noPlaceStands);
    }

    private void noPlaceStands() {
        FallTrials x = with(Books.LOGS);
        granted(x, "none", x.spoils(), 0);
        x.fall(0, 0, 0);
        granted(x, "one of two PLACES", x.spoils(), 0);
        x.fall(0, 1, 0);
        granted(x, "both", x.spoils(), 1);
        x.clear();
        x.fall(2, 1, 3);
        granted(x, "a down in LAST", x.spoils(), 0);
        x.fall(2, 2, 3);
        granted(x, "both down in LAST", x.spoils(), 1);
        // PLACES ahead of gives have no part in it.
        x.clear();
        x.fall(1, 0, 1);
        due("IDLE, truly run", x.run(), 1);
        granted(x, "c down", x.spoils(), 0);
        // A PLACE that holds with the FALLS alone is no help.
        x = with("machine a;machine b;row x;row w kept;row y;row z;fact x at a;fact w at a;send z to b if x at a;"
            + "send y to b if w at a;promise w at a gives z at b or y at b");
        x.last(3);
        x.fall(0, 1, 2);
        x.fall(3, 0, 0);
        due("GOOD, truly run", x.run(), 0);
        granted(x, "z comes late, in LAST", x.spoils(), 1);
        // Of an IDLE RUN in which some PLACE holds.
        x = with("machine a;machine b;row x kept;row y;fact x at a;promise y at b gives x at a or y at b");
        due("IDLE", x.run(), 1);
        granted(x, "none", x.spoils(), 0);
        x.fall(1, 0, 3);
        granted(x, "a down", x.spoils(), 1);
    }

    // ------------------------------------------------------------------ purses, trials

    private void purses() {
        sentence("III", "of each KIND up to 3 FALLS, together up to 3 (1, 1, 0, 0 at first)", this::upToThree);
        sentence("III", "ALL FALLS: of KINDS of which THE PURSE has some, all SENDS (MACHINES), all TICKS", this::allFalls);
        sentence("III", "SETS of THE PURSE: 1 or more of ALL FALLS", this::oneOrMore);
        sentence("III", "of no KIND more than it has (together no more than it has)", this::noMoreThanItHas);
        sentence("III", "by how many, then by the least NUMBER in which they differ (the set that has it first)", this::orderOfSets);
    }

    private void upToThree() {
        FallTrials x = with(Books.PAIR);
        due("1 LOST of 4, 1 DOWN of 8", x.count(10), 5 * 9 - 1);
        purse(x, 3, 0, 0, 0);
        purse(x, 0, 3, 0, 0);
        purse(x, 0, 0, 3, 0);
        purse(x, 0, 0, 0, 3);
        refused(x, "four of a KIND", x.purse(3, 4), 2);
        purse(x, 1, 0, 1, 1);
        refused(x, "one of each KIND", x.purse(1, 1), 2);
        purse(x, 0, 1, 2, 0);
    }

    private void allFalls() {
        FallTrials x = with(Books.WIDE);
        int[][] purses = {{0, 0, 0, 0}, {1, 0, 0, 0}, {3, 0, 0, 0}, {0, 1, 0, 0}, {0, 0, 2, 0}, {0, 0, 0, 1}, {1, 1, 0, 0}, {1, 1, 0, 1}};
        int[] perTick = {0, 6, 6, 4, 4, 6, 10, 16};
        for (int ticks = 1; ticks <= 6; ticks++) {
            x.last(ticks);
            for (int i = 0; i < purses.length; i++) {
                purse(x, purses[i]);
                due("purse " + i + ", LAST " + ticks, x.count(9), perTick[i] * ticks);
            }
        }
        x = with("machine a;row x;promise x at a gives x at a");
        purse(x, 2, 0, 0, 1);
        due("no SENDS", x.count(9), 0);
        due("no SETS", x.count(10), 0);
    }

    private void oneOrMore() {
        FallTrials x = with(Books.PAIR);
        purse(x, 0, 0, 0, 0);
        due("an empty purse", x.count(10), 0);
        granted(x, "exact()", x.exact(), 0);
        granted(x, "trial(1)", x.trial(1), 0);
        due("tried()", x.tried(), 0);
        due("known()", x.known(), 1);
        // None is no SET: of a RUN that is BROKEN anyhow only those with FALLS count.
        x = with(Books.LOST_CAUSE);
        purse(x, 0, 0, 1, 0);
        // Away in 0 or in 3 x isn't there in LAST; away in 1 or in 2 it is kept.
        granted(x, "exact()", x.exact(), 2);
        exactlyDue(x, 201);
    }

    private void noMoreThanItHas() {
        FallTrials x = with(Books.PAIR);
        int[][] purses = {{1, 0, 0, 0}, {2, 0, 0, 0}, {3, 0, 0, 0}, {0, 0, 3, 0}, {1, 1, 1, 0}, {2, 1, 0, 0}, {1, 0, 0, 2}, {0, 1, 1, 1}};
        int[] due = {4, 10, 14, 8 + 28 + 56, 5 * 9 * 9 - 1, 11 * 9 - 1, 5 * 11 - 1, 9 * 9 * 5 - 1};
        for (int i = 0; i < purses.length; i++) {
            purse(x, purses[i]);
            due("purse " + i, x.count(10), due[i]);
        }
        // Fewer FALLS than the purse has.
        x.last(1);
        purse(x, 3, 0, 0, 0);
        due("one FALL", x.count(10), 1);
        x.last(2);
        due("two FALLS", x.count(10), 3);
        x.last(3);
        due("three FALLS", x.count(10), 7);
        // The most of all: 3 of 60, and 1 of 36 and 24 and 24.
        x = with(Books.WIDE);
        x.last(6);
        purse(x, 1, 1, 1, 0);
        due("of three KINDS", x.count(10), 37 * 25 * 25 - 1);
        purse(x, 3, 0, 0, 0);
        due("3 of 36", x.count(10), 36 + 630 + 7140);
    }

    private void orderOfSets() {
        // One of a great NUMBER comes ahead of two of the least.
        FallTrials x = with(HELD);
        x.last(2);
        purse(x, 2, 1, 0, 0);
        // b down from 0 or 1 on with any of the 4 sets of LOST words; both words lost.
        granted(x, "exact()", x.exact(), 9);
        exactlyDue(x, 110);
        purse(x, 2, 0, 0, 0);
        granted(x, "exact()", x.exact(), 1);
        exactlyDue(x, 0, 1);
        // Of {0, 120} and {10, 110} the one that has 0, though the other has the lesser second.
        x = with(Books.LOGS);
        granted(x, "exact()", x.exact(), 8);
        exactlyDue(x, 0, 120);
        due("trial(100)", x.trial(100), 1);
        foundDue(x, 0, 120);
        // Of {0, 110} and {0, 210} and {0, 300} the first differ in 110.
        x = with("machine a;machine b;machine c;row x kept;row y kept;fact x at a;send y to b if x at a;send y to c if x at a;"
            + "promise x at a gives y at b or y at c");
        x.last(1);
        purse(x, 1, 1, 1, 0);
        // y at b is hit by 0, 110, 210, y at c by 10, 120, 220; a's being down makes it IDLE. One of each KIND at most:
        // pairs {0, 120}, {0, 220}, {10, 110}, {10, 210}, {110, 220}, {120, 210}; and three of them.
        exactlyFirst(x, 0, 120);
        purse(x, 0, 1, 1, 0);
        exactlyFirst(x, 110, 220);
        purse(x, 1, 0, 1, 0);
        exactlyFirst(x, 0, 220);
        purse(x, 2, 0, 0, 1);
        exactlyFirst(x, 0, 10);
        purse(x, 0, 0, 0, 2);
        exactlyFirst(x, 300, 310);
    }

    private void exactlyFirst(FallTrials x, int... want) {
        due("some are BROKEN", x.exact() > 0, true);
        exactlyDue(x, want);
    }

    private void trials() {
        sentence("III", "A TRIAL: the RUN without FALLS must be GOOD: its FORMULA is KNOWN.", this::firstFormula);
        sentence("III", "one that doesn't SPOIL all KNOWN FORMULAS is passed over; else it is RUN", this::passedOver);
        sentence("III", "BROKEN: the TRIAL ends with it", this::endsBroken);
        sentence("III", "GOOD: its FORMULA is KNOWN, too", this::goodIsKnown);
        sentence("III", "IDLE: on.", this::idleGoesOn);
        sentence("III", "Ended, too, when so many RUNS (behind the first) are done as told and another would be.", this::spent);
    }

    private void firstFormula() {
        FallTrials x = with(Books.PAIR);
        purse(x, 0, 0, 0, 1);
        x.last(1);
        x.fall(0, 0, 0);
        due("BROKEN by the FALLS told", x.run(), 2);
        granted(x, "the RUN without is GOOD", x.trial(100), 1);
        foundDue(x, 300);
        due("known()", x.known(), 1);
        due("the FALLS told stay", x.told(0), 0);
        x = with(Books.IDLE_BOOK);
        refused(x, "IDLE", x.trial(100), 5);
        x = with(Books.LOST_CAUSE);
        refused(x, "BROKEN", x.trial(100), 5);
    }

    private void passedOver() {
        // z is kept at b from the first WORD on: of 4 words lost at most 3, one stands.
        FallTrials x = with(HELD);
        purse(x, 3, 0, 0, 0);
        granted(x, "none of 14 sets", x.trial(1), 0);
        due("tried()", x.tried(), 0);
        due("known()", x.known(), 1);
        // With LAST 3 {0, 1, 2} is the one; it is truly BROKEN.
        x.last(3);
        granted(x, "all three words", x.trial(1), 1);
        due("tried()", x.tried(), 1);
        foundDue(x, 0, 1, 2);
    }

    private void endsBroken() {
        FallTrials x = with(Books.LOGS);
        // {100} and {0, 100} are run ahead of it: IDLE.
        granted(x, "trial(100)", x.trial(100), 1);
        due("tried()", x.tried(), 3);
        due("known()", x.known(), 1);
        foundDue(x, 0, 120);
        granted(x, "just enough RUNS", x.trial(3), 1);
        foundDue(x, 0, 120);
    }

    private void goodIsKnown() {
        // {0, 1} spoils the first FORMULA; c asks in 2 and 3, too, and {0, 1, 2} and {0, 1, 3} don't spoil that one's.
        FallTrials x = with(Books.RETRY);
        purse(x, 3, 0, 0, 0);
        granted(x, "trial(100)", x.trial(100), 0);
        due("tried()", x.tried(), 1);
        due("known()", x.known(), 2);
        foundDue(x);
    }

    private void idleGoesOn() {
        FallTrials x = with(SAFE);
        purse(x, 0, 1, 0, 0);
        granted(x, "a down", x.trial(100), 0);
        due("tried()", x.tried(), 4);
        due("known()", x.known(), 1);
        foundDue(x);
    }

    private void spent() {
        // a down in 4 TICKS, with none or one of 24 words: 4 and 96.
        FallTrials x = with(SAFE);
        granted(x, "100 RUNS, none left", x.trial(100), 0);
        due("tried()", x.tried(), 100);
        granted(x, "99", x.trial(99), 2);
        due("tried()", x.tried(), 99);
        due("known()", x.known(), 1);
        foundDue(x);
        granted(x, "1", x.trial(1), 2);
        due("tried()", x.tried(), 1);
        x.last(5);
        granted(x, "155 would be", x.trial(100), 2);
        due("tried()", x.tried(), 100);
        x = with(Books.RETRY);
        purse(x, 3, 0, 0, 0);
        granted(x, "one RUN is enough: no other would be", x.trial(1), 0);
        due("tried()", x.tried(), 1);
        x = with(Books.LOGS);
        granted(x, "two, and the third would break it", x.trial(2), 2);
        due("tried()", x.tried(), 2);
        foundDue(x);
    }

    private void exactAndCut() {
        sentence("III", "EXACT: all SETS are RUN: how many are BROKEN, and the first.", this::exactRuns);
        sentence("III", "from the greatest NUMBER down each one is left out if it is BROKEN without it", this::cutFromTheGreatest);
    }

    private void exactRuns() {
        FallTrials x = with(Books.LOGS);
        x.fall(1, 0, 0);
        // One word lost, the other's MACHINE down: 2 times 4; the FALLS told have no part in it.
        granted(x, "exact()", x.exact(), 8);
        exactlyDue(x, 0, 120);
        x = with(SAFE);
        granted(x, "none", x.exact(), 0);
        exactlyDue(x);
        // A set that spoils no FORMULA is RUN, too; here none is GOOD at first.
        x = with(Books.LOST_CAUSE);
        purse(x, 0, 0, 2, 0);
        // Away in 1, in 2, in both; in 0 or in 3 with any other: not there in LAST.
        granted(x, "exact()", x.exact(), 3);
        exactlyDue(x, 201);
    }

    private void cutFromTheGreatest() {
        FallTrials x = with(Books.LOGS);
        x.fall(1, 1, 0);
        x.fall(1, 2, 0);
        x.fall(0, 0, 0);
        x.fall(0, 1, 0);
        granted(x, "cut()", x.cut(), 2);
        toldDue(x, 0, 10);
        // Those that matter alone stay, wherever they stand.
        x.clear();
        x.fall(0, 0, 3);
        x.fall(0, 1, 0);
        x.fall(0, 1, 2);
        x.fall(2, 1, 3);
        x.fall(3, 0, 1);
        x.fall(3, 1, 3);
        due("BROKEN", x.run(), 2);
        granted(x, "six", x.cut(), 2);
        toldDue(x, 10, 213);
        granted(x, "again", x.cut(), 2);
        toldDue(x, 10, 213);
    }

    // ------------------------------------------------------------------ starts, chains

    private void thinStarts() {
        sentence("III", "over all STARTS, of which the RUN without FALLS is GOOD", this::goodStarts);
        sentence("III", "the one with the smallest first SET that SPOILS its FORMULA", this::smallestSet);
        sentence("III", "of like ones the lesser number as bits", this::lesserStart);
        sentence("III", "(a START that no SET spoils: none)", this::startUnspoilt);
    }

    private void goodStarts() {
        // 0 and 2: IDLE; 1: one word; 3: z is a FACT.
        FallTrials x = with("machine a;machine b;row x kept;row z kept;fact x at a maybe;fact z at b maybe;send z to b if x at a;"
            + "promise x at a gives z at b");
        x.last(1);
        purse(x, 1, 0, 0, 0);
        granted(x, "an IDLE one isn't", x.thin(), 1);
        due("thinness()", x.thinness(), 1);
        // 0: BROKEN; 1: one word.
        x = with("machine a;machine b;row x kept;row w;row z kept;fact x at a;fact w at a maybe;send z to b if x and w at a;"
            + "promise x at a gives z at b");
        x.last(1);
        purse(x, 1, 0, 0, 0);
        granted(x, "a BROKEN one isn't", x.thin(), 1);
        x.start(0);
        granted(x, "THE START doesn't matter", x.thin(), 1);
        due("and stays", x.count(12), 0);
        x.fall(0, 0, 0);
        granted(x, "nor do the FALLS told", x.thin(), 1);
        due("and they stay", x.told(0), 0);
    }

    private void smallestSet() {
        // Without y two words, with it one.
        String book = "machine a;machine b;row x kept;row y;row z kept;fact x at a;fact y at a maybe;send z to b if x at a;"
            + "send z to b if not y at a;promise x at a gives z at b";
        FallTrials x = with(book);
        x.last(1);
        purse(x, 2, 0, 0, 0);
        granted(x, "one FALL is less than two", x.thin(), 1);
        due("thinness()", x.thinness(), 1);
        // With three words each of 1, 2, 3 FALLS is smallest in its turn.
        String three = "machine a;machine b;row x kept;row z kept;fact x at a;fact z at b maybe;send z to b if x at a;";
        for (int words = 1; words <= 3; words++) {
            x = with(three + "send z to b if x at a;".repeat(words - 1) + "promise x at a gives z at b");
            x.last(1);
            purse(x, 3, 0, 0, 0);
            granted(x, words + " words", x.thin(), 0);
            due("thinness()", x.thinness(), words);
        }
    }

    private void lesserStart() {
        // y (bit 1) takes a word; v (bit 0) and w (bit 2) take none: 2 is the least with one word.
        FallTrials x = with("machine a;machine b;row x kept;row y;row z kept;row v;row w;fact v at a maybe;fact x at a;"
            + "fact y at a maybe;fact w at b maybe;send z to b if x at a;send z to b if not y at a;promise x at a gives z at b");
        x.last(1);
        purse(x, 2, 0, 0, 0);
        granted(x, "thin()", x.thin(), 2);
        due("thinness()", x.thinness(), 1);
        // Like ones are those of as many FALLS, whatever their NUMBERS.
        x = with("machine a;machine b;row x kept;row y;row z kept;fact x at a;fact y at a maybe;send z to b if y at a;"
            + "send z to b if x and not y at a;promise x at a gives z at b");
        x.last(1);
        purse(x, 1, 0, 0, 0);
        granted(x, "{10} of 0, {0} of 1", x.thin(), 0);
    }

    private void startUnspoilt() {
        FallTrials x = with(Books.STARTS);
        x.last(1);
        purse(x, 1, 0, 0, 0);
        // Without y one word, with it two: no SET of one spoils that.
        granted(x, "thin()", x.thin(), 0);
        x = with("machine a;machine b;row x kept;row z kept;fact x at a;fact z at b;fact x at b maybe;send z to b if x at a;"
            + "promise x at a gives z at b");
        purse(x, 3, 0, 0, 0);
        refused(x, "z is there anyhow", x.thin(), 6);
        purse(x, 0, 0, 0, 0);
        refused(x, "no SETS", x.thin(), 6);
    }

    private void chains() {
        sentence("III", "A CHAIN of the RUN of the FALLS told: from the first PLACE behind gives that holds", this::firstPlace);
        sentence("III", "by its first REASON the least ROW of that one's CASES (not those behind not)", this::leastRow);
        sentence("III", "in their TICK at their MACHINE", this::theirTick);
        sentence("III", "(KEPT: the ROW itself in the TICK it was kept from)", this::keptLink);
        sentence("III", "till a FACT, a REASON without such ROWS, or one that the CHAIN has", this::chainEnds);
    }

    private void firstPlace() {
        FallTrials x = with("machine a;machine b;row x kept;row y;fact x at a;send y to b if x at a;"
            + "promise x at a gives y at a or y at b or x at a");
        // y at a never holds.
        chainDue(x, 4101, 3000, 2000, 1000, 0);
        x.fall(0, 0, 3);
        chainDue(x, 4000, 3000, 2000, 1000, 0);
        x.fall(1, 0, 3);
        chainDue(x);
        // In the order they are told.
        x = with("machine a;row x kept;row y kept;fact x at a;fact y at a;promise x at a gives y at a or x at a");
        chainDue(x, 4001, 3001, 2001, 1001, 1);
    }

    private void leastRow() {
        // By RULE 0, though x is less than y and told behind it; the case behind not is the least of all.
        FallTrials x = with("machine a;row n;row v kept;row w kept;row z;fact w at a;fact v at a;rule z next if w and v and not n;"
            + "rule z next if w;promise v at a gives z at a");
        chainDue(x, 4003, 3001, 2001, 1001, 1);
        x = with("machine a;row v kept;row w kept;row z;fact w at a;fact v at a;rule z now if w;rule z now if v;"
            + "promise v at a gives z at a");
        chainDue(x, 4002, 4001, 3001, 2001, 1001, 1);
        // The first REASON: a WORD comes ahead of KEPT, KEPT ahead of NEXT, NEXT ahead of NOW; of WORDS that of the least SEND.
        x = with("machine a;machine b;row x kept;row y kept;row z kept;fact x at a;fact y at a;fact x at b;send z to b if y at a;"
            + "send z to b if x at a;rule z next if x;rule z now if x;promise x at a gives z at b");
        chainDue(x, 4102, 3001, 2001, 1001, 1);
        x.fall(0, 0, 3);
        chainDue(x, 4102, 3000, 2000, 1000, 0);
        x.fall(0, 1, 3);
        chainDue(x, 4102, 3102, 2001, 1001, 1);
    }

    private void theirTick() {
        // A late WORD: the TICK of sending; a RULE next: the TICK ahead; a RULE now: the same.
        FallTrials x = with("machine a;machine b;row x;row y;row z;row w kept;fact x at a;fact w at b;send y to b if x at a;"
            + "rule z next if y;rule w now if z;promise w at b gives z at b");
        x.fall(3, 0, 0);
        chainDue(x, 4102, 3101, 0);
        x = with("machine a;machine b;row x;row y;row z;row w kept;fact x at a;fact w at a;send y to b if x at a;"
            + "rule z now if y;promise w at a gives z at b");
        x.last(1);
        chainDue(x, 1102, 1101, 0);
        x.last(3);
        x.fall(3, 0, 0);
        chainDue(x, 3102, 3101, 0);
    }

    private void keptLink() {
        FallTrials x = with(Books.LOGS);
        chainDue(x, 4102, 3102, 2102, 1102, 0);
        x.fall(2, 1, 2);
        chainDue(x, 4102, 1102, 0);
        x.clear();
        x.last(6);
        x.fall(2, 1, 2);
        x.fall(2, 1, 4);
        chainDue(x, 6102, 1102, 0);
    }

    private void chainEnds() {
        FallTrials x = with("machine a;row x kept;fact x at a;promise x at a gives x at a");
        x.last(1);
        chainDue(x, 1000, 0);
        x = with("machine a;row n;row x kept;row z;fact x at a;rule z next if not n;promise x at a gives z at a");
        chainDue(x, 4002);
        // y by x, x by y: the one that the CHAIN has isn't told again. x comes by w, by a RULE told later.
        x = with("machine a;row w kept;row x;row y;fact w at a;rule x now if y;rule y now if x;rule x now if w;"
            + "promise w at a gives x at a");
        chainDue(x, 4001, 4002);
        x = with("machine a;row w kept;row x;fact w at a;rule x now if x;rule x now if w;promise w at a gives x at a");
        chainDue(x, 4001);
        // A FACT is the first REASON, even where a RULE brings the ROW, too.
        x = with("machine a;row w kept;row x kept;fact w at a;fact x at a;rule x now if w;promise w at a gives x at a");
        x.last(2);
        chainDue(x, 2001, 1001, 1);
    }

    // ------------------------------------------------------------------ promises 16 to 21

    private void spoilsAndStands() {
        sentence("16", "Whether the FALLS told SPOIL THE FORMULA of the RUN without FALLS: 1, 0.", this::spoilsAnswers);
        sentence("16", "NONE: 1 (no BOOK); 5 (that RUN is BROKEN).", this::spoilsRefused);
        sentence("17", "Whether a ROW STANDS, the FALLS told being put to the RUN without: 1, 0.", this::standsAnswers);
        sentence("17", "NONE: 1; 2 (a TICK); 5 (it isn't there in it).", this::standsRefused);
    }

    private void spoilsAnswers() {
        FallTrials x = with(Books.PAIR);
        granted(x, "no FALLS", x.spoils(), 0);
        x.fall(0, 0, 2);
        granted(x, "the word of 2", x.spoils(), 0);
        x.fall(0, 0, 3);
        granted(x, "the word of 3", x.spoils(), 1);
        due("BROKEN by the FALLS told, not without", x.run(), 2);
        x.clear();
        x.fall(3, 0, 1);
        x.fall(0, 0, 3);
        due("GOOD, truly run", x.run(), 0);
        granted(x, "the late word isn't in the FORMULA", x.spoils(), 1);
        x.clear();
        granted(x, "no FALLS again", x.spoils(), 0);
    }

    private void spoilsRefused() {
        FallTrials x = new FallTrials();
        refused(x, "no BOOK", x.spoils(), 1);
        x = with(Books.STARTS.replace("send z to b if x at a; ", ""));
        granted(x, "GOOD with y", x.spoils(), 0);
        x.start(2);
        refused(x, "BROKEN without it", x.spoils(), 5);
        x.start(1);
        granted(x, "GOOD again", x.spoils(), 0);
    }

    private void standsAnswers() {
        FallTrials x = with(Books.PAIR);
        standsDue(x, 0, 0, 1, 1, 1, 1, 1);
        standsDue(x, 1, 1, -1, 1, 1, 1, 1);
        x.fall(0, 0, 1);
        standsDue(x, 1, 1, -1, 1, 0, 1, 1);
        x.clear();
        standsDue(x, 1, 1, -1, 1, 1, 1, 1);
        x = with(Books.LOST_CAUSE);
        granted(x, "no refusal is told for a BROKEN one", x.stands(0, 0, 4), 1);
        x.fall(1, 0, 2);
        granted(x, "stands(0, 0, 1)", x.stands(0, 0, 1), 1);
        granted(x, "stands(0, 0, 2)", x.stands(0, 0, 2), 0);
    }

    private void standsRefused() {
        FallTrials x = new FallTrials();
        refused(x, "no BOOK", x.stands(0, 0, 0), 1);
        x = with(Books.PAIR);
        for (int row : new int[] {-1, 2, 10, LEAST, MOST}) refused(x, "row " + row, x.stands(row, 0, 9), 1);
        for (int machine : new int[] {-1, 2, 4, LEAST, MOST}) refused(x, "machine " + machine, x.stands(0, machine, 9), 1);
        for (int tick : new int[] {-1, 5, 7, LEAST, MOST}) refused(x, "tick " + tick, x.stands(1, 0, tick), 2);
        for (int tick = 0; tick <= 4; tick++) refused(x, "y at a in " + tick, x.stands(1, 0, tick), 5);
        // There with the FALLS told, not without.
        x = with("machine a;machine b;row x;row y;fact x at a;send y to b if x at a;promise x at a gives y at b");
        x.fall(3, 0, 0);
        due("there(1, 1, 3)", x.there(1, 1, 3), 1);
        refused(x, "late", x.stands(1, 1, 3), 5);
        granted(x, "there without", x.stands(1, 1, 1), 0);
    }

    private void trialCalls() {
        sentence("18", "A TRIAL of at most so many RUNS (1 .. 100)", this::upTo100Runs);
        sentence("18", "0 no SET is left: it HOLDS; 1 BROKEN; 2 SPENT.", this::trialAnswers);
        sentence("18", "NONE: 1 (no BOOK); 2; 5 (the RUN without FALLS isn't GOOD", this::trialRefused);
        sentence("18", "or there are more than 60 of ALL FALLS and THE PURSE has 3", this::trialTooMuch);
        sentence("19", "RUNS that the latest trial() not refused did (behind the first); NONE without one.", this::triedAnswers);
        sentence("20", "FORMULAS that were KNOWN at its end; NONE without one.", this::knownAnswers);
        sentence("20", "FORMULAS that were KNOWN at its end", this::mostFormulas);
        sentence("III", "one that doesn't SPOIL all KNOWN FORMULAS is passed over", this::firstFormulaStays);
        sentence("21", "NUMBER of the i-th FALL (by NUMBERS) of the SET that ended it BROKEN; NONE if there is none such.",
            this::foundAnswers);
    }

    private void upTo100Runs() {
        FallTrials x = with(SAFE);
        for (int runs : new int[] {0, 101, -1, LEAST, MOST}) refused(x, "trial(" + runs + ")", x.trial(runs), 2);
        granted(x, "trial(1)", x.trial(1), 2);
        granted(x, "trial(100)", x.trial(100), 0);
    }

    private void trialAnswers() {
        FallTrials x = with(HELD);
        x.last(2);
        purse(x, 1, 0, 0, 0);
        granted(x, "HOLDS", x.trial(1), 0);
        purse(x, 2, 0, 0, 0);
        granted(x, "BROKEN", x.trial(1), 1);
        purse(x, 2, 1, 0, 0);
        // {100}: IDLE; {101}: a is up in 0, and z is there by the WORD of 0: passed over; {110}: BROKEN.
        granted(x, "SPENT", x.trial(1), 2);
        granted(x, "BROKEN", x.trial(2), 1);
        foundDue(x, 110);
    }

    private void trialRefused() {
        FallTrials x = new FallTrials();
        refused(x, "no BOOK", x.trial(1), 1);
        refused(x, "1 is ahead of 2", x.trial(0), 1);
        x = with(Books.IDLE_BOOK);
        refused(x, "IDLE", x.trial(1), 5);
        refused(x, "2 is ahead of 5", x.trial(101), 2);
        x = with(Books.LOST_CAUSE);
        refused(x, "BROKEN", x.trial(100), 5);
        x = with("machine a;machine b;row x kept;row y;fact x at a maybe;send y to b if x at a;promise x at a gives y at b");
        granted(x, "GOOD", x.trial(100), 1);
        x.start(0);
        refused(x, "IDLE by THE START", x.trial(100), 5);
    }

    private void trialTooMuch() {
        FallTrials x = with(Books.WIDE);
        x.last(6);
        purse(x, 2, 1, 0, 0);
        due("60", x.count(9), 60);
        granted(x, "60 and 3", x.trial(1), 2);
        purse(x, 1, 1, 1, 0);
        due("84", x.count(9), 84);
        refused(x, "84 and 3", x.trial(1), 5);
        purse(x, 1, 1, 0, 0);
        granted(x, "60 and 2", x.trial(1), 2);
        purse(x, 0, 1, 0, 1);
        granted(x, "60 and 2", x.trial(1), 2);
        purse(x, 1, 0, 0, 1);
        due("72", x.count(9), 72);
        granted(x, "72 and 2: none spoils it", x.trial(1), 0);
        purse(x, 1, 0, 0, 2);
        refused(x, "72 and 3", x.trial(1), 5);
        x.last(5);
        due("60", x.count(9), 60);
        granted(x, "60 and 3", x.trial(1), 0);
        x.last(4);
        purse(x, 1, 1, 0, 1);
        due("64", x.count(9), 64);
        refused(x, "64 and 3", x.trial(1), 5);
    }

    private void triedAnswers() {
        FallTrials x = new FallTrials();
        due("a new object", x.tried(), -1);
        x.trial(1);
        due("a refused one", x.tried(), -1);
        Feeder.tell(x, SAFE);
        due("a new BOOK", x.tried(), -1);
        x.trial(0);
        due("a refused one", x.tried(), -1);
        x.trial(7);
        due("tried()", x.tried(), 7);
        x.trial(0);
        due("it stays behind one that is refused by 2", x.tried(), 7);
        x.last(6);
        purse(x, 1, 0, 0, 2);
        refused(x, "trial(1)", x.trial(1), 5);
        due("it stays behind one that is refused by 5", x.tried(), 7);
        purse(x, 0, 0, 0, 0);
        due("THE PURSE and LAST change nothing", x.tried(), 7);
        x.trial(9);
        due("no SETS", x.tried(), 0);
    }

    private void knownAnswers() {
        FallTrials x = new FallTrials();
        due("a new object", x.known(), -1);
        x.trial(1);
        due("a refused one", x.known(), -1);
        Feeder.tell(x, Books.RETRY);
        due("a new BOOK", x.known(), -1);
        purse(x, 3, 0, 0, 0);
        x.trial(1);
        due("that of {0, 1}, too", x.known(), 2);
        x.trial(101);
        due("it stays behind a refused one", x.known(), 2);
        purse(x, 1, 0, 0, 0);
        x.trial(1);
        due("the first alone", x.known(), 1);
    }

    /** With LAST 6 words of 5 TICKS of 2 SENDS matter: of 10 one, two or three lost are GOOD, and each spoils all before. */
    private void mostFormulas() {
        FallTrials x = with(BOTH);
        x.last(6);
        purse(x, 1, 0, 0, 0);
        granted(x, "one", x.trial(100), 0);
        due("tried()", x.tried(), 10);
        due("known()", x.known(), 11);
        purse(x, 2, 0, 0, 0);
        granted(x, "two", x.trial(100), 0);
        due("tried()", x.tried(), 55);
        due("known()", x.known(), 56);
        granted(x, "55 RUNS are enough", x.trial(55), 0);
        granted(x, "54 are not", x.trial(54), 2);
        purse(x, 3, 0, 0, 0);
        granted(x, "three: 175 would be", x.trial(100), 2);
        due("tried()", x.tried(), 100);
        due("known()", x.known(), 101);
        due("exact()", x.exact(), 0);
        granted(x, "once more", x.trial(100), 2);
        due("known()", x.known(), 101);
        x.last(5);
        granted(x, "of 8 words three: 92", x.trial(92), 0);
        due("known()", x.known(), 93);
    }

    /**
     * Of 8 words one, two or three lost: 92; with u's, that of 0 of y and at most one more: 8. All are GOOD, and want v.
     * {30, 40, 50}, all of v's words, spoils each of these 100 FORMULAS, but not the first one: there is no run 101.
     */
    private void firstFormulaStays() {
        FallTrials x = with(BESIDE);
        x.last(5);
        purse(x, 3, 0, 0, 0);
        granted(x, "100 RUNS", x.trial(100), 0);
        due("tried()", x.tried(), 100);
        due("known()", x.known(), 101);
        granted(x, "99 are too few", x.trial(99), 2);
        for (int send = 3; send < 6; send++) x.fall(0, send, 0);
        granted(x, "v's words and the first FORMULA", x.spoils(), 0);
        granted(x, "once more", x.trial(100), 0);
        due("known()", x.known(), 101);
    }

    private void foundAnswers() {
        FallTrials x = new FallTrials();
        for (int i : new int[] {-1, 0, 1, LEAST, MOST}) due("a new object", x.found(i), -1);
        Feeder.tell(x, HELD);
        x.last(3);
        purse(x, 3, 0, 0, 0);
        due("BROKEN", x.trial(100), 1);
        foundDue(x, 0, 1, 2);
        for (int i : new int[] {-1, 3, 4, LEAST, MOST}) due("found(" + i + ")", x.found(i), -1);
        x.trial(0);
        foundDue(x, 0, 1, 2);
        x.last(4);
        foundDue(x, 0, 1, 2);
        due("HOLDS", x.trial(100), 0);
        foundDue(x);
        // One that SPENT tells none, either.
        x = with(Books.LOGS);
        x.trial(100);
        foundDue(x, 0, 120);
        due("SPENT", x.trial(1), 2);
        foundDue(x);
        // By NUMBERS: the LATE one, told by 300, behind the one that is DOWN.
        x = with(HELD);
        x.last(2);
        purse(x, 1, 0, 0, 1);
        due("BROKEN", x.trial(100), 1);
        foundDue(x, 0, 301);
    }

    // ------------------------------------------------------------------ promises 22 to 29

    private void exactCalls() {
        sentence("22", "EXACT: how many SETS are BROKEN.", this::exactAnswers);
        sentence("22", "NONE: 1 (no BOOK); 5 (as with trial(), but for the RUN).", this::exactRefused);
        sentence("23", "NUMBER of the i-th FALL of the first that is, by the latest exact() not refused; NONE if there is none such.",
            this::exactlyAnswers);
        sentence("24", "CUT: how many FALLS are told then.", this::cutAnswers);
        sentence("24", "NONE: 1 (no BOOK); 5 (the RUN isn't BROKEN).", this::cutRefused);
        sentence("25", "NUMBER of the i-th of the FALLS told, by NUMBERS; NONE.", this::toldAnswers);
    }

    private void exactAnswers() {
        FallTrials x = with(HELD);
        x.last(2);
        int[][] purses = {{0, 0, 0, 0}, {1, 0, 0, 0}, {2, 0, 0, 0}, {0, 1, 0, 0}, {1, 0, 0, 1}, {0, 0, 0, 3}};
        // Words of 0 and 1; late ones come behind LAST. b down from 0 or 1 on.
        int[] due = {0, 0, 1, 2, 2, 1};
        for (int i = 0; i < purses.length; i++) {
            purse(x, purses[i]);
            granted(x, "purse " + i, x.exact(), due[i]);
        }
        // Of 6 words in one TICK 3 lost aren't all; of 3 they are.
        for (int words = 3; words <= 6; words++) {
            x = with("machine a;machine b;row x kept;fact x at a;" + "send x to b if x at a;".repeat(words)
                + "promise x at a gives x at b");
            x.last(1);
            purse(x, 3, 0, 0, 0);
            granted(x, words + " words, 3 lost", x.exact(), words == 3 ? 1 : 0);
        }
        behindManyFalls();
    }

    /** What breaks it is the 70th of 72 FALLS: y, late, comes in 5, when it is in the way. No FORMULA knows that. */
    private void behindManyFalls() {
        FallTrials x = with("machine a;machine b;row s;row t;row u;row y;row w kept;row z;fact s at a;fact w at b;"
            + "rule t next if s at a;rule u next if t at a;rule z next if w and not y;" + "send s to b if z at a;".repeat(5)
            + "send y to b if u at a;promise w at b gives z at b");
        x.last(6);
        purse(x, 1, 0, 0, 1);
        due("count(9)", x.count(9), 72);
        granted(x, "alone, or with another word lost", x.exact(), 36);
        exactlyDue(x, 352);
        granted(x, "no SET spoils the FORMULA", x.trial(1), 0);
    }

    private void exactRefused() {
        FallTrials x = new FallTrials();
        refused(x, "no BOOK", x.exact(), 1);
        x = with(Books.IDLE_BOOK);
        granted(x, "IDLE is no hindrance", x.exact(), 0);
        x = with(Books.LOST_CAUSE);
        granted(x, "nor is BROKEN", x.exact(), 0);
        x = with(Books.WIDE);
        x.last(6);
        purse(x, 1, 1, 1, 0);
        refused(x, "84 and 3", x.exact(), 5);
        purse(x, 1, 0, 0, 1);
        granted(x, "72 and 2", x.exact(), 0);
        purse(x, 2, 1, 0, 0);
        granted(x, "60 and 3", x.exact(), 0);
        x.last(4);
        purse(x, 1, 1, 0, 1);
        refused(x, "64 and 3", x.exact(), 5);
    }

    private void exactlyAnswers() {
        FallTrials x = new FallTrials();
        for (int i : new int[] {-1, 0, 1, LEAST, MOST}) due("a new object", x.exactly(i), -1);
        x.exact();
        due("a refused one", x.exactly(0), -1);
        Feeder.tell(x, HELD);
        x.last(3);
        purse(x, 3, 0, 0, 0);
        due("exact()", x.exact(), 1);
        exactlyDue(x, 0, 1, 2);
        for (int i : new int[] {-1, 3, 4, LEAST, MOST}) due("exactly(" + i + ")", x.exactly(i), -1);
        // Behind a refused one it stays; behind one that finds none there is none.
        Feeder.tell(x, Books.WIDE.replace("gives x at b or x at c or x at d", "gives x at b"));
        x.last(6);
        purse(x, 0, 1, 0, 0);
        due("b down", x.exact(), 6);
        exactlyDue(x, 110);
        purse(x, 1, 1, 1, 0);
        refused(x, "84 and 3", x.exact(), 5);
        exactlyDue(x, 110);
        purse(x, 1, 0, 0, 0);
        due("one word", x.exact(), 0);
        exactlyDue(x);
        // It is exact()'s, not trial()'s.
        x = with(Books.LOGS);
        x.trial(100);
        exactlyDue(x);
        x.exact();
        x.trial(1);
        exactlyDue(x, 0, 120);
        foundDue(x);
    }

    private void cutAnswers() {
        FallTrials x = with(Books.PAIR);
        x.fall(0, 0, 3);
        granted(x, "the one that matters", x.cut(), 1);
        toldDue(x, 3);
        for (int tick = 0; tick < 3; tick++) x.fall(0, 0, tick);
        x.fall(2, 1, 0);
        x.fall(3, 0, 2);
        granted(x, "one of six", x.cut(), 1);
        toldDue(x, 3);
        x = with(Books.LOST_CAUSE);
        granted(x, "none are told, and none needed", x.cut(), 0);
        x.fall(2, 0, 1);
        x.fall(2, 0, 2);
        granted(x, "none are needed", x.cut(), 0);
        toldDue(x);
    }

    private void cutRefused() {
        FallTrials x = new FallTrials();
        refused(x, "no BOOK", x.cut(), 1);
        x = with(Books.PAIR);
        refused(x, "GOOD", x.cut(), 5);
        x.fall(0, 0, 2);
        refused(x, "GOOD", x.cut(), 5);
        toldDue(x, 2);
        x.fall(1, 0, 3);
        refused(x, "IDLE", x.cut(), 5);
        toldDue(x, 2, 103);
    }

    private void toldAnswers() {
        FallTrials x = new FallTrials();
        for (int i : new int[] {-1, 0, 6, LEAST, MOST}) due("a new object", x.told(i), -1);
        Feeder.tell(x, Books.PAIR);
        x.fall(3, 0, 3);
        x.fall(2, 1, 0);
        x.fall(2, 0, 1);
        x.fall(1, 1, 3);
        x.fall(0, 0, 3);
        x.fall(0, 0, 0);
        toldDue(x, 0, 3, 113, 201, 210, 303);
        for (int i : new int[] {-1, 6, 7, LEAST, MOST}) due("told(" + i + ")", x.told(i), -1);
        x.clear();
        due("told(0)", x.told(0), -1);
    }

    private void startCalls() {
        sentence("26", "THE START as bits becomes it: true", this::startGranted);
        sentence("26", "false: 1 (no BOOK); 2 (bits of FACTS maybe that there aren't).", this::startRefused);
        sentence("27", "THIN: the START as bits.", this::thinAnswers);
        sentence("27", "NONE: 1 (no BOOK); 5 (as with exact()); 6.", this::thinRefused);
        sentence("28", "Of how many FALLS the SET is, by the latest thin() that told a START; NONE without one.", this::thinnessAnswers);
        sentence("29", "1,000 times the TICK, 100 times the MACHINE and the ROW.", this::ledAnswers);
        sentence("29", "NoSuchElementException if there is none such.", this::ledThrows);
    }

    private void startGranted() {
        FallTrials x = with(Books.STARTS);
        x.fall(0, 0, 0);
        x.keep();
        for (int bits : new int[] {0, 3, 1, 2, 2}) {
            granted(x, "start(" + bits + ")", x.start(bits));
            due("count(12)", x.count(12), bits);
            due("y at a", x.there(1, 0, 0), bits & 1);
            due("x at b", x.there(0, 1, 0), bits >> 1);
        }
        due("FALLS stay", x.count(6), 1);
        due("KEPT SETS stay", x.count(8), 1);
        x = with(Books.PAIR);
        granted(x, "no FACTS maybe", x.start(0));
    }

    private void startRefused() {
        FallTrials x = new FallTrials();
        for (int bits : new int[] {0, 1, -1}) refused(x, "no BOOK", x.start(bits), 1);
        x = with(Books.STARTS);
        x.start(1);
        for (int bits : new int[] {4, 5, 7, 8, 1 << 20, -1, -4, LEAST, MOST}) {
            refused(x, "start(" + bits + ")", x.start(bits), 2);
            due("it stays", x.count(12), 1);
        }
        x = with(Books.PAIR);
        refused(x, "no FACTS maybe", x.start(1), 2);
        refused(x, "no FACTS maybe", x.start(LEAST), 2);
        x = with("machine a;row p;" + "fact p at a maybe;".repeat(10) + "promise p at a gives p at a");
        granted(x, "all of ten", x.start(1023));
        refused(x, "an eleventh", x.start(1024), 2);
    }

    private void thinAnswers() {
        // z by x, or by y, or by both, to one MACHINE that keeps it; without both it is BROKEN.
        FallTrials x = with("machine a;machine b;row v kept;row x kept;row y kept;row z kept;fact v at a;fact x at a maybe;"
            + "fact y at a maybe;send z to b if x at a;send z to b if y at a;promise v at a gives z at b");
        x.last(1);
        purse(x, 2, 0, 0, 0);
        granted(x, "1, 2: a word; 3: two", x.thin(), 1);
        due("thinness()", x.thinness(), 1);
        x.last(2);
        granted(x, "words of 0 and 1", x.thin(), 1);
        due("thinness()", x.thinness(), 2);
        purse(x, 0, 1, 0, 0);
        granted(x, "b down", x.thin(), 1);
        due("thinness()", x.thinness(), 1);
        // No FACTS maybe: one START, 0.
        x = with(Books.PAIR);
        granted(x, "thin()", x.thin(), 0);
        due("the word of 3", x.thinness(), 1);
    }

    private void thinRefused() {
        FallTrials x = new FallTrials();
        refused(x, "no BOOK", x.thin(), 1);
        x = with(Books.LOST_CAUSE);
        refused(x, "never GOOD", x.thin(), 6);
        x = with(Books.IDLE_BOOK);
        refused(x, "always IDLE", x.thin(), 6);
        x = with(HELD);
        purse(x, 3, 0, 0, 0);
        refused(x, "no SET spoils it", x.thin(), 6);
        x = with(Books.WIDE);
        x.last(6);
        purse(x, 1, 1, 1, 0);
        refused(x, "84 and 3", x.thin(), 5);
        purse(x, 2, 1, 0, 0);
        granted(x, "60 and 3: a down", x.thin(), 0);
        purse(x, 1, 0, 0, 1);
        refused(x, "72 and 2", x.thin(), 6);
        x = with(Books.LOST_CAUSE.replace("machine a;", "machine a; machine b; machine c; machine d;").replace("promise",
            "send x to a if x at b; send x to a if x at b; send x to a if x at b; send x to a if x at b; promise"));
        x.last(6);
        purse(x, 1, 1, 0, 1);
        due("72", x.count(9), 72);
        refused(x, "5 is ahead of 6", x.thin(), 5);
    }

    private void thinnessAnswers() {
        FallTrials x = new FallTrials();
        due("a new object", x.thinness(), -1);
        x.thin();
        due("no BOOK", x.thinness(), -1);
        Feeder.tell(x, HELD);
        purse(x, 3, 0, 0, 0);
        refused(x, "none", x.thin(), 6);
        due("none told yet", x.thinness(), -1);
        for (int ticks = 3; ticks >= 1; ticks--) {
            x.last(ticks);
            granted(x, "LAST " + ticks, x.thin(), 0);
            due("its words", x.thinness(), ticks);
        }
        x.last(2);
        x.thin();
        x.last(4);
        refused(x, "none", x.thin(), 6);
        due("that of the latest that told one", x.thinness(), 2);
        x.exact();
        x.trial(100);
        due("trial() and exact() don't change it", x.thinness(), 2);
    }

    private void ledAnswers() {
        FallTrials x = with(Books.RETRY);
        chainDue(x, 4102, 3102, 2102, 1000, 0);
        // c hears in 3 and asks in 2, too; with both lost it asks in 2 and 3.
        x.fall(0, 0, 0);
        chainDue(x, 4102, 3102, 2000, 1000, 0);
        x.fall(0, 0, 1);
        chainDue(x, 4102, 3000, 2000, 1000, 0);
        // The greatest: TICK 6, MACHINE 3, ROW 9.
        x = with("machine a;machine b;machine c;machine d;row p;row q;row r;row s;row t;row u;row v;row w;row x;"
            + "row y kept;fact y at d;promise y at d gives y at d");
        x.last(6);
        chainDue(x, 6309, 5309, 4309, 3309, 2309, 1309, 309);
    }

    private void ledThrows() {
        FallTrials none = new FallTrials();
        throwsNone("no BOOK", () -> none.led(0));
        FallTrials x = with(Books.PAIR);
        refused(x, "a call refused by 2", x.last(9), 2);
        due("led(4)", x.led(4), 0);
        for (int i : new int[] {-1, 5, 6, 280, 281, LEAST, MOST}) throwsNone("led(" + i + ")", () -> x.led(i));
        due("trouble() stays", x.trouble(), 2);
        x.fall(1, 1, 0);
        throwsNone("no PLACE behind gives holds", () -> x.led(0));
        due("trouble() of fall()", x.trouble(), 0);
    }
}
