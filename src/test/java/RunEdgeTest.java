/** Sentences that name an edge: runs (II), promises 6 to 15. */
public final class RunEdgeTest extends Edges {
    public static void main(String[] args) {
        RunEdgeTest test = new RunEdgeTest();
        test.ticks();
        test.reasonsOfRows();
        test.sends();
        test.kindsOfFalls();
        test.verdicts();
        test.lastAndPurse();
        test.fallsTold();
        test.rowsAndReasons();
        test.wordsOfRuns();
        test.firstDifference();
        test.end("II", "6", "7", "8", "9", "10", "11", "12", "13", "14", "15");
    }

    // ------------------------------------------------------------------ ticks, reasons

    private void ticks() {
        sentence("II", "A RUN goes over TICKS 0 .. LAST (1 .. 6; 4 at first).", this::zeroToLast);
        sentence("II", "at one that is DOWN then none is", this::noneWhereDown);
    }

    private void zeroToLast() {
        FallTrials x = with(Books.PAIR);
        due("LAST at first", x.count(5), 4);
        thereDue(x, 1, 1, 0, 1, 1, 1, 1);
        for (int ticks = 1; ticks <= 6; ticks++) {
            due("last(" + ticks + ")", x.last(ticks), true);
            for (int tick = 0; tick <= ticks; tick++) granted(x, "x in " + tick, x.there(0, 0, tick), 1);
            granted(x, "y in LAST", x.there(1, 1, ticks), 1);
            granted(x, "run()", x.run(), 0);
            refused(x, "behind LAST", x.there(0, 0, ticks + 1), 2);
            refused(x, "ahead of 0", x.there(0, 0, -1), 2);
        }
    }

    /** Neither FACT, WORD, KEPT, NEXT nor NOW brings one there. */
    private void noneWhereDown() {
        FallTrials x = with("machine a;machine b;row x kept;row y;row z;row w;fact x at a;fact x at b;rule y now if x;"
            + "rule z next if not y;rule w next if x;send x to b if x at a;promise x at a gives x at b");
        x.fall(2, 1, 0);
        thereDue(x, 0, 1, 0, 0, 1, 1, 1);
        thereDue(x, 1, 1, 0, 0, 1, 1, 1);
        thereDue(x, 2, 1, 0, 0, 0, 0, 0);
        thereDue(x, 3, 1, 0, 0, 0, 1, 1);
        thereDue(x, 0, 0, 1, 1, 1, 1, 1);
        for (int tick = 0; tick < 2; tick++) {
            for (int row = 0; row < 4; row++) reasonsDue(x, row, 1, tick);
        }
        x.clear();
        x.fall(1, 1, 2);
        for (int row = 0; row < 4; row++) {
            for (int tick = 2; tick <= 4; tick++) reasonsDue(x, row, 1, tick);
        }
        thereDue(x, 0, 1, 1, 1, 0, 0, 0);
    }

    private void reasonsOfRows() {
        sentence("II", "FACT: it is one (maybe: of the START), TICK 0", this::factInTickZero);
        sentence("II", "THE START: those of FACTS maybe, in order, that are there (all at first)", this::theStart);
        sentence("II", "WORD: one of a SEND that comes in this TICK", this::wordThatComes);
        sentence("II", "KEPT: it is a kept ROW and was there in the latest TICK ahead in which the MACHINE was not DOWN",
            this::keptFromTheLatest);
        sentence("II", "NEXT: a RULE next, all of whose CASES hold at the MACHINE in the TICK ahead", this::ruleNext);
        sentence("II", "(a ROW is there; not: it isn't; at one that was DOWN none holds)", this::casesHold);
        sentence("II", "NOW: a RULE now, all of whose ROWS are there in this TICK", this::ruleNow);
        sentence("II", "again and again till no ROW comes", this::againAndAgain);
    }

    private void factInTickZero() {
        FallTrials x = with("machine a;machine b;row x;row y;row z kept;fact x at a;fact y at a maybe;fact x at a maybe;"
            + "fact z at b;fact z at b;promise x at a gives x at a");
        thereDue(x, 0, 0, 1, 0, 0, 0, 0);
        thereDue(x, 1, 0, 1, 0, 0, 0, 0);
        thereDue(x, 0, 1, 0, 0, 0, 0, 0);
        thereDue(x, 2, 1, 1, 1, 1, 1, 1);
        reasonsDue(x, 0, 0, 0, 0);
        reasonsDue(x, 1, 0, 0, 0);
        reasonsDue(x, 2, 1, 0, 0);
        reasonsDue(x, 2, 1, 1, 2000);
        x.start(0);
        thereDue(x, 0, 0, 1, 0, 0, 0, 0);
        thereDue(x, 1, 0, 0, 0, 0, 0, 0);
        reasonsDue(x, 0, 0, 0, 0);
        reasonsDue(x, 1, 0, 0);
        // A FACT of a MACHINE that is DOWN in TICK 0 isn't there later, either.
        x.fall(2, 1, 0);
        thereDue(x, 2, 1, 0, 0, 0, 0, 0);
    }

    private void theStart() {
        FallTrials x = with("machine a;row p;row q;row r;fact p at a maybe;fact q at a;fact r at a maybe;"
            + "promise q at a gives q at a");
        int[][] due = {{0, 1, 0}, {1, 1, 0}, {0, 1, 1}, {1, 1, 1}};
        for (int row = 0; row < 3; row++) due("all at first, row " + row, x.there(row, 0, 0), 1);
        for (int bits = 0; bits < 4; bits++) {
            x.start(bits);
            due("count(12)", x.count(12), bits);
            for (int row = 0; row < 3; row++) due("start " + bits + ", row " + row, x.there(row, 0, 0), due[bits][row]);
        }
        StringBuilder ten = new StringBuilder("machine a;");
        for (char c = 'p'; c <= 'y'; c++) ten.append("row ").append(c).append(';');
        for (char c = 'y'; c >= 'p'; c--) ten.append("fact ").append(c).append(" at a maybe;");
        x = with(ten + "promise p at a gives p at a");
        due("all of ten", x.count(12), 1023);
        x.start(512);
        for (int row = 0; row < 10; row++) due("the tenth alone, row " + row, x.there(row, 0, 0), row == 0 ? 1 : 0);
    }

    private void wordThatComes() {
        FallTrials x = with(Books.PAIR);
        reasonsDue(x, 1, 1, 0);
        for (int tick = 1; tick <= 4; tick++) reasonsDue(x, 1, 1, tick, 1000 + tick - 1);
        reasonsDue(x, 1, 0, 1);
        x.fall(3, 0, 0);
        reasonsDue(x, 1, 1, 1);
        reasonsDue(x, 1, 1, 3, 1000, 1002);
        x.fall(0, 0, 2);
        reasonsDue(x, 1, 1, 3, 1000);
        x.fall(0, 0, 0);
        reasonsDue(x, 1, 1, 3);
    }

    private void keptFromTheLatest() {
        FallTrials x = with("machine a;row x kept;row z;fact x at a;fact z at a;promise x at a gives x at a");
        x.last(6);
        thereDue(x, 0, 0, 1, 1, 1, 1, 1, 1, 1);
        thereDue(x, 1, 0, 1, 0, 0, 0, 0, 0, 0);
        x.fall(2, 0, 1);
        thereDue(x, 0, 0, 1, 0, 0, 1, 1, 1, 1);
        thereDue(x, 1, 0, 1, 0, 0, 0, 0, 0, 0);
        reasonsDue(x, 0, 0, 3, 2000);
        reasonsDue(x, 0, 0, 4, 2003);
        x.fall(2, 0, 3);
        thereDue(x, 0, 0, 1, 0, 0, 0, 0, 1, 1);
        reasonsDue(x, 0, 0, 5, 2000);
        x.clear();
        x.fall(2, 0, 0);
        thereDue(x, 0, 0, 0, 0, 0, 0, 0, 0, 0);
        x.clear();
        x.fall(2, 0, 4);
        reasonsDue(x, 0, 0, 6, 2003);
    }

    private void ruleNext() {
        FallTrials x = with("machine a;machine b;row x kept;row y;row z;fact x at a;rule y next if x and not z;"
            + "rule z next if y at a;rule z next if not x at b;promise x at a gives x at a");
        thereDue(x, 1, 0, 0, 1, 1, 0, 0);
        thereDue(x, 2, 0, 0, 0, 1, 1, 0);
        thereDue(x, 2, 1, 0, 1, 1, 1, 1);
        reasonsDue(x, 1, 0, 0);
        reasonsDue(x, 1, 0, 1, 3000);
        reasonsDue(x, 2, 0, 2, 3001);
        reasonsDue(x, 2, 1, 1, 3002);
        reasonsDue(x, 2, 1, 0);
    }

    private void casesHold() {
        FallTrials x = with("machine a;row x kept;row y;row z;fact x at a;rule y next if x and not z;rule z next if y;"
            + "promise x at a gives x at a");
        x.fall(2, 0, 1);
        thereDue(x, 1, 0, 0, 0, 0, 0, 1);
        thereDue(x, 2, 0, 0, 0, 0, 0, 0);
        x = with("machine a;row x;rule x next if not x;promise x at a gives x at a");
        thereDue(x, 0, 0, 0, 1, 0, 1, 0);
        x.fall(2, 0, 0);
        thereDue(x, 0, 0, 0, 0, 0, 1, 0);
        x.clear();
        x.fall(1, 0, 3);
        thereDue(x, 0, 0, 0, 1, 0, 0, 0);
    }

    private void ruleNow() {
        FallTrials x = with("machine a;machine b;row x;row y;row z;row w kept;fact x at a;fact y at b;fact x at b;"
            + "rule z now if x and y;rule w now if x at b;rule y next if w;promise x at a gives x at a");
        thereDue(x, 2, 0, 0, 0, 0, 0, 0);
        thereDue(x, 2, 1, 1, 0, 0, 0, 0);
        thereDue(x, 3, 0, 0, 0, 0, 0, 0);
        thereDue(x, 3, 1, 1, 1, 1, 1, 1);
        reasonsDue(x, 3, 1, 0, 4001);
        reasonsDue(x, 3, 1, 1, 2000);
        reasonsDue(x, 1, 1, 1, 3002);
        // By a ROW that comes by a WORD, is kept or comes by a RULE next in the same TICK.
        x = with("machine a;machine b;row x kept;row y;row p;row q;row r;fact x at a;send y to b if x at a;"
            + "rule p now if y;rule q now if x;rule r now if q and p;rule y next if x;promise x at a gives y at b");
        thereDue(x, 2, 1, 0, 1, 1, 1, 1);
        thereDue(x, 2, 0, 0, 1, 1, 1, 1);
        thereDue(x, 3, 0, 1, 1, 1, 1, 1);
        thereDue(x, 4, 0, 0, 1, 1, 1, 1);
        thereDue(x, 4, 1, 0, 0, 0, 0, 0);
    }

    /** Nine rules, each told ahead of the one that it waits for. */
    private void againAndAgain() {
        StringBuilder b = new StringBuilder("machine a;");
        for (char c = 'p'; c <= 'y'; c++) b.append("row ").append(c).append(';');
        for (char c = 'y'; c > 'p'; c--) b.append("rule ").append(c).append(" now if ").append((char) (c - 1)).append(';');
        FallTrials x = with(b + "fact p at a;promise p at a gives p at a");
        for (int row = 0; row < 10; row++) thereDue(x, row, 0, 1, 0, 0, 0, 0);
        reasonsDue(x, 9, 0, 0, 4000);
        reasonsDue(x, 1, 0, 0, 4008);
        // Round about, of nothing nothing comes.
        x = with("machine a;row p;row q;rule p now if q;rule q now if p;rule p now if p;promise p at a gives p at a");
        thereDue(x, 0, 0, 0, 0, 0, 0, 0);
        reasonsDue(x, 0, 0, 0);
    }

    // ------------------------------------------------------------------ sends, falls

    private void sends() {
        sentence("II", "A SEND sends a WORD in each TICK but LAST", this::eachTickButLast);
        sentence("II", "in which all its CASES hold at the MACHINE that sends (it isn't DOWN)", this::casesAtTheSender);
        sentence("II", "it comes in the next TICK", this::nextTick);
        sentence("II", "it is lost if the MACHINE it comes to is DOWN then", this::lostWhereDown);
        sentence("II", "or LAST is behind", this::lostBehindLast);
    }

    private void eachTickButLast() {
        FallTrials x = with(Books.PAIR);
        for (int ticks = 1; ticks <= 6; ticks++) {
            x.last(ticks);
            for (int tick = 0; tick < ticks; tick++) granted(x, "word(0, " + tick + ")", x.word(0, tick), 1);
            refused(x, "in LAST", x.word(0, ticks), 2);
        }
    }

    private void casesAtTheSender() {
        FallTrials x = with("machine a;machine b;row x kept;row y;row z kept;fact x at a;send y to b if x and not z at a;"
            + "send z to a if not x at b;send y to b if x and z at a;promise x at a gives y at b");
        wordsDue(x, 0, 1, 0, 0, 0);
        wordsDue(x, 1, 1, 1, 1, 1);
        wordsDue(x, 2, 0, 1, 1, 1);
        // At b, away in 1 and 2, no CASE holds, not even one behind not.
        x.fall(2, 1, 1);
        wordsDue(x, 0, 4, 0, 0, 0);
        wordsDue(x, 1, 1, 0, 0, 1);
        wordsDue(x, 2, 0, 4, 1, 1);
        x.clear();
        x.fall(1, 0, 2);
        wordsDue(x, 2, 0, 1, 0, 0);
    }

    private void nextTick() {
        FallTrials x = with("machine a;machine b;row x;row y;fact x at a;send y to b if x at a;promise x at a gives y at b");
        thereDue(x, 1, 1, 0, 1, 0, 0, 0);
        wordsDue(x, 0, 1, 0, 0, 0);
        x = with(Books.PAIR);
        thereDue(x, 1, 1, 0, 1, 1, 1, 1);
    }

    private void lostWhereDown() {
        FallTrials x = with(Books.PAIR);
        x.fall(1, 1, 2);
        wordsDue(x, 0, 1, 4, 4, 4);
        x.clear();
        x.fall(2, 1, 2);
        wordsDue(x, 0, 1, 4, 4, 1);
        thereDue(x, 1, 1, 0, 1, 0, 0, 1);
        // DOWN in the TICK of sending alone doesn't matter at the MACHINE it comes to.
        x.clear();
        x.fall(2, 1, 0);
        wordsDue(x, 0, 4, 1, 1, 1);
    }

    private void lostBehindLast() {
        FallTrials x = with(Books.PAIR);
        for (int tick = 0; tick < 4; tick++) x.fall(3, 0, tick);
        wordsDue(x, 0, 3, 3, 4, 4);
        thereDue(x, 1, 1, 0, 0, 0, 1, 1);
        x.last(2);
        x.fall(3, 0, 0);
        x.fall(3, 0, 1);
        wordsDue(x, 0, 4, 4);
    }

    private void kindsOfFalls() {
        sentence("II", "of KIND 0 LOST (a SEND, a TICK: the WORD that it sends then doesn't come)", this::lostWord);
        sentence("II", "1 DOWN (a MACHINE, a TICK: it is DOWN from then on)", this::downFromThenOn);
        sentence("II", "2 AWAY (a MACHINE is DOWN in that TICK and the next)", this::awayForTwo);
        sentence("II", "3 LATE (a SEND, a TICK: the WORD comes two TICKS later than else)", this::lateByTwo);
        sentence("II", "TICKS 0 .. LAST less 1", this::ticksOfFalls);
        sentence("II", "100 times its KIND and 10 times the SEND (MACHINE) and the TICK", this::numbersOfFalls);
        sentence("II", "LOST and LATE of one WORD: it doesn't come.", this::lostAndLate);
    }

    private void lostWord() {
        FallTrials x = with(Books.PAIR);
        x.fall(0, 0, 1);
        wordsDue(x, 0, 1, 2, 1, 1);
        thereDue(x, 1, 1, 0, 1, 0, 1, 1);
        x = with(Books.TWICE);
        x.fall(0, 1, 1);
        wordsDue(x, 0, 1, 1, 1, 1);
        wordsDue(x, 1, 1, 2, 1, 1);
        thereDue(x, 1, 1, 0, 1, 1, 1, 1);
        reasonsDue(x, 1, 1, 2, 1001);
        x.fall(0, 0, 1);
        thereDue(x, 1, 1, 0, 1, 0, 1, 1);
    }

    private void downFromThenOn() {
        for (int from = 0; from < 4; from++) {
            FallTrials x = with(Books.PAIR);
            x.fall(1, 0, from);
            for (int tick = 0; tick <= 4; tick++) due("down from " + from + ", " + tick, x.there(0, 0, tick), tick < from ? 1 : 0);
        }
        // To the greatest LAST; AWAY besides ends nothing; the other MACHINE isn't.
        FallTrials x = with(Books.PAIR);
        x.last(6);
        x.fall(2, 0, 0);
        x.fall(1, 0, 1);
        x.fall(2, 0, 3);
        thereDue(x, 0, 0, 0, 0, 0, 0, 0, 0, 0);
        x.clear();
        x.fall(1, 1, 0);
        thereDue(x, 0, 0, 1, 1, 1, 1, 1, 1, 1);
        thereDue(x, 1, 1, 0, 0, 0, 0, 0, 0, 0);
    }

    private void awayForTwo() {
        for (int from = 0; from < 4; from++) {
            FallTrials x = with("machine a;machine b;row x kept;fact x at a;fact x at b;promise x at a gives x at b");
            x.fall(2, 1, from);
            for (int tick = 0; tick <= 4; tick++) {
                int due = from == 0 || tick == from || tick == from + 1 ? 0 : 1;
                due("away in " + from + ", " + tick, x.there(0, 1, tick), due);
                due("the other in " + tick, x.there(0, 0, tick), 1);
            }
        }
        // Twice, one behind the other and one upon the other.
        FallTrials x = with(Books.PAIR);
        x.last(6);
        x.fall(2, 1, 1);
        x.fall(2, 1, 2);
        x.fall(2, 1, 5);
        thereDue(x, 1, 1, 0, 0, 0, 0, 1, 0, 0);
    }

    private void lateByTwo() {
        FallTrials x = with("machine a;machine b;row x;row y;fact x at a;send y to b if x at a;promise x at a gives y at b");
        x.fall(3, 0, 0);
        wordsDue(x, 0, 3, 0, 0, 0);
        thereDue(x, 1, 1, 0, 0, 0, 1, 0);
        // DOWN when it would have come in time, up when it comes; and the other way round.
        x.fall(2, 1, 1);
        wordsDue(x, 0, 3, 0, 0, 0);
        thereDue(x, 1, 1, 0, 0, 0, 1, 0);
        x.clear();
        x.fall(3, 0, 0);
        x.fall(2, 1, 2);
        wordsDue(x, 0, 4, 0, 0, 0);
        thereDue(x, 1, 1, 0, 0, 0, 0, 0);
        // In LAST it comes still.
        x = with(Books.PAIR);
        x.last(6);
        x.fall(3, 0, 3);
        x.fall(3, 0, 4);
        wordsDue(x, 0, 1, 1, 1, 3, 4, 1);
        thereDue(x, 1, 1, 0, 1, 1, 1, 0, 0, 1);
        reasonsDue(x, 1, 1, 6, 1003, 1005);
    }

    private void ticksOfFalls() {
        for (int ticks = 1; ticks <= 6; ticks++) {
            FallTrials x = with(Books.PAIR);
            x.last(ticks);
            for (int kind = 0; kind < 4; kind++) {
                refused(x, "in -1", x.fall(kind, 0, -1), 2);
                refused(x, "in LAST", x.fall(kind, 0, ticks), 2);
                granted(x, "in LAST less 1", x.fall(kind, 0, ticks - 1), 1);
                x.clear();
                granted(x, "in 0", x.fall(kind, 0, 0), 1);
                x.clear();
            }
        }
    }

    private void numbersOfFalls() {
        FallTrials x = with(Books.WIDE);
        x.last(6);
        x.fall(3, 5, 5);
        x.fall(0, 5, 4);
        x.fall(2, 3, 0);
        x.fall(1, 3, 5);
        x.fall(0, 0, 0);
        x.fall(3, 0, 1);
        toldDue(x, 0, 54, 135, 230, 301, 355);
    }

    private void lostAndLate() {
        FallTrials x = with(Books.PAIR);
        x.fall(3, 0, 0);
        x.fall(0, 0, 0);
        wordsDue(x, 0, 2, 1, 1, 1);
        reasonsDue(x, 1, 1, 1);
        reasonsDue(x, 1, 1, 3, 1002);
        // Of one WORD: of two WORDS each has its own.
        x = with(Books.TWICE);
        x.fall(0, 0, 0);
        x.fall(3, 1, 0);
        wordsDue(x, 0, 2, 1, 1, 1);
        wordsDue(x, 1, 3, 1, 1, 1);
        reasonsDue(x, 1, 1, 3, 1002, 1010, 1012);
    }

    private void verdicts() {
        sentence("II", "In LAST: PRE: all PLACES ahead of gives hold (the ROW is there)", this::preInLast);
        sentence("II", "POST: some PLACE behind it does.", this::postInLast);
        sentence("II", "A RUN is BROKEN (2) if PRE, and not POST; IDLE (1) if not PRE; else GOOD (0).", this::brokenIdleGood);
    }

    private void preInLast() {
        String facts = "machine a;machine b;row x kept;row y kept;fact x at a maybe;fact y at a maybe;fact x at b maybe;";
        FallTrials x = with(facts + "promise x at a and y at a and x at b gives x at a");
        for (int bits = 0; bits < 8; bits++) {
            x.start(bits);
            due("start " + bits, x.run(), bits == 7 ? 0 : 1);
        }
        // There in all TICKS but LAST.
        x = with("machine a;row x;row y;fact x at a;rule x next if x and not y;rule y next if x;promise x at a gives x at a");
        thereDue(x, 0, 0, 1, 1, 0, 0, 0);
        due("LAST 4", x.run(), 1);
        x.last(1);
        due("LAST 1", x.run(), 0);
    }

    private void postInLast() {
        String facts = "machine a;machine b;row w kept;row x kept;row y kept;fact x at a maybe;fact y at a maybe;"
            + "fact x at b maybe;fact w at b;";
        FallTrials x = with(facts + "promise w at b gives x at a or y at a or x at b");
        for (int bits = 0; bits < 8; bits++) {
            x.start(bits);
            due("start " + bits, x.run(), bits == 0 ? 2 : 0);
        }
        x = with("machine a;row w kept;row x;fact w at a;fact x at a;promise w at a gives x at a");
        due("there in TICK 0 alone", x.run(), 2);
    }

    private void brokenIdleGood() {
        FallTrials x = with("machine a;row p kept;row q kept;row r kept;row s kept;fact p at a maybe;fact q at a maybe;"
            + "fact r at a maybe;fact s at a maybe;promise p at a and q at a gives r at a or s at a");
        for (int bits = 0; bits < 16; bits++) {
            x.start(bits);
            granted(x, "start " + bits, x.run(), (bits & 3) != 3 ? 1 : bits >> 2 == 0 ? 2 : 0);
        }
        x.fall(1, 0, 3);
        granted(x, "down in LAST", x.run(), 1);
    }

    // ------------------------------------------------------------------ promises 6 to 9

    private void lastAndPurse() {
        sentence("6", "LAST (no FALLS, no KEPT SETS then): true", this::lastGranted);
        sentence("6", "false: 1 (no BOOK); 2.", this::lastRefused);
        sentence("7", "How many FALLS of a KIND THE PURSE has: true", this::purseGranted);
        sentence("7", "false: 1 (KIND, no BOOK)", this::purseWithoutKind);
        sentence("7", "2 (also if it has more than 3 together then)", this::purseTooFull);
    }

    private void lastGranted() {
        FallTrials x = with(Books.STARTS);
        x.mend(0, 0);
        x.start(1);
        purse(x, 0, 0, 2, 1);
        for (int ticks : new int[] {1, 6, 6, 4}) {
            x.fall(1, 0, 0);
            x.keep();
            granted(x, "last(" + ticks + ")", x.last(ticks));
            due("LAST", x.count(5), ticks);
            due("no FALLS", x.count(6), 0);
            due("told(0)", x.told(0), -1);
            due("no KEPT SETS", x.count(8), 0);
            due("MENDS stay", x.count(7), 1);
            due("THE START stays", x.count(12), 1);
            due("THE PURSE stays: 2 machines, 2 sends", x.count(9), 4 * ticks);
            granted(x, "fall(1, 0, 0) again", x.fall(1, 0, 0), 1);
            granted(x, "keep() again", x.keep(), 1);
        }
    }

    private void lastRefused() {
        FallTrials x = new FallTrials();
        for (int ticks : new int[] {1, 6, 0, 7, LEAST, MOST}) refused(x, "no BOOK", x.last(ticks), 1);
        x = with(Books.PAIR);
        x.fall(1, 0, 3);
        x.keep();
        for (int ticks : new int[] {0, 7, -1, LEAST, MOST}) {
            refused(x, "last(" + ticks + ")", x.last(ticks), 2);
            due("LAST stays", x.count(5), 4);
            due("FALLS stay", x.count(6), 1);
            due("KEPT SETS stay", x.count(8), 1);
        }
    }

    private void purseGranted() {
        FallTrials x = with(Books.PAIR);
        int[] perKind = {1, 2, 2, 1};
        for (int kind = 0; kind < 4; kind++) {
            purse(x, 0, 0, 0, 0);
            due("none", x.count(9), 0);
            for (int n = 0; n <= 3; n++) {
                granted(x, "purse(" + kind + ", " + n + ")", x.purse(kind, n));
                due("ALL FALLS", x.count(9), n == 0 ? 0 : 4 * perKind[kind]);
            }
            granted(x, "as many again", x.purse(kind, 3));
        }
    }

    private void purseWithoutKind() {
        FallTrials x = new FallTrials();
        for (int kind = -1; kind <= 4; kind++) refused(x, "no BOOK", x.purse(kind, 1), 1);
        refused(x, "no BOOK, no number", x.purse(0, 9), 1);
        x = with(Books.PAIR);
        for (int kind : new int[] {-1, 4, LEAST, MOST}) {
            refused(x, "purse(" + kind + ", 0)", x.purse(kind, 0), 1);
            refused(x, "purse(" + kind + ", 9)", x.purse(kind, 9), 1);
        }
        due("it stays", x.count(10), 5 * 9 - 1);
    }

    private void purseTooFull() {
        FallTrials x = with(Books.PAIR);
        for (int n : new int[] {-1, 4, LEAST, MOST}) {
            refused(x, "purse(0, " + n + ")", x.purse(0, n), 2);
            refused(x, "purse(3, " + n + ")", x.purse(3, n), 2);
        }
        // 1, 1, 0, 0: one more of any KIND, two more of none.
        refused(x, "1, 1, 2, 0", x.purse(2, 2), 2);
        refused(x, "1, 1, 0, 2", x.purse(3, 2), 2);
        refused(x, "3, 1, 0, 0", x.purse(0, 3), 2);
        due("it stays", x.count(10), 5 * 9 - 1);
        granted(x, "2, 1, 0, 0", x.purse(0, 2));
        refused(x, "2, 2, 0, 0", x.purse(1, 2), 2);
        refused(x, "2, 1, 1, 0", x.purse(2, 1), 2);
        granted(x, "as many again", x.purse(0, 2));
        granted(x, "1, 1, 0, 0", x.purse(0, 1));
        granted(x, "1, 1, 1, 0", x.purse(2, 1));
        refused(x, "1, 1, 1, 1", x.purse(3, 1), 2);
        granted(x, "0 goes always", x.purse(3, 0));
    }

    private void fallsTold() {
        sentence("8", "A FALL more: how many there are.", this::fallMore);
        sentence("8", "NONE: 1 (KIND, SEND, MACHINE)", this::fallOfNone);
        sentence("8", "2 (a TICK)", this::fallInNoTick);
        sentence("8", "5 (it is told)", this::fallTold);
        sentence("8", "3 (6 are)", this::fallsFull);
        sentence("9", "No FALLS are told any more: how many there were.", this::clearAll);
    }

    private void fallMore() {
        FallTrials x = with(Books.PAIR);
        granted(x, "LATE", x.fall(3, 0, 3), 1);
        granted(x, "AWAY", x.fall(2, 1, 0), 2);
        granted(x, "DOWN", x.fall(1, 1, 3), 3);
        granted(x, "LOST", x.fall(0, 0, 3), 4);
        toldDue(x, 3, 113, 210, 303);
        // Of KINDS of which THE PURSE has none, too, and more than it has.
        purse(x, 0, 0, 0, 0);
        granted(x, "more than THE PURSE has", x.fall(0, 0, 2), 5);
    }

    private void fallOfNone() {
        FallTrials x = new FallTrials();
        for (int kind = 0; kind < 4; kind++) refused(x, "no BOOK", x.fall(kind, 0, 0), 1);
        x = with(Books.PAIR);
        for (int kind : new int[] {-1, 4, LEAST, MOST}) refused(x, "kind " + kind, x.fall(kind, 0, 0), 1);
        int[] hit = {1, 2, 2, 1};
        for (int kind = 0; kind < 4; kind++) {
            for (int which : new int[] {-1, hit[kind], LEAST, MOST}) {
                refused(x, "fall(" + kind + ", " + which + ", 0)", x.fall(kind, which, 0), 1);
                refused(x, "ahead of 2", x.fall(kind, which, -1), 1);
            }
            granted(x, "the last of them", x.fall(kind, hit[kind] - 1, 0), kind + 1);
        }
        x = with("machine a;row p;promise p at a gives p at a");
        refused(x, "a BOOK without SENDS", x.fall(0, 0, 0), 1);
        refused(x, "a BOOK without SENDS", x.fall(3, 0, 0), 1);
        x = with("row p;machine a;promise p at a gives p at a");
        granted(x, "its MACHINE", x.fall(1, 0, 0), 1);
    }

    private void fallInNoTick() {
        FallTrials x = with(Books.PAIR);
        for (int tick : new int[] {-1, 4, 5, LEAST, MOST}) {
            for (int kind = 0; kind < 4; kind++) refused(x, "tick " + tick, x.fall(kind, 0, tick), 2);
        }
        due("none was told", x.count(6), 0);
    }

    private void fallTold() {
        FallTrials x = with(Books.PAIR);
        for (int kind = 0; kind < 4; kind++) {
            granted(x, "once", x.fall(kind, 0, 2), kind + 1);
            refused(x, "twice", x.fall(kind, 0, 2), 5);
        }
        granted(x, "another TICK", x.fall(0, 0, 1), 5);
        granted(x, "another MACHINE", x.fall(1, 1, 2), 6);
        refused(x, "ahead of 3", x.fall(2, 0, 2), 5);
        due("count(6)", x.count(6), 6);
        x.clear();
        granted(x, "told no more", x.fall(2, 0, 2), 1);
    }

    private void fallsFull() {
        FallTrials x = with(Books.PAIR);
        for (int i = 0; i < 4; i++) x.fall(0, 0, i);
        x.fall(1, 0, 0);
        granted(x, "the sixth", x.fall(1, 1, 0), 6);
        refused(x, "the seventh", x.fall(2, 0, 0), 3);
        refused(x, "2 comes ahead", x.fall(2, 0, 4), 2);
        refused(x, "1 comes ahead", x.fall(2, 2, 0), 1);
        due("count(6)", x.count(6), 6);
        toldDue(x, 0, 1, 2, 3, 100, 110);
    }

    private void clearAll() {
        FallTrials x = new FallTrials();
        due("no BOOK", x.clear(), 0);
        x = with(Books.PAIR);
        due("none", x.clear(), 0);
        for (int many = 1; many <= 6; many++) {
            for (int i = 0; i < many; i++) x.fall(i < 4 ? 0 : 1, 0, i % 4);
            if (many == 2) x.keep();
            due("clear()", x.clear(), many);
            due("none are left", x.clear(), 0);
            toldDue(x);
        }
        due("KEPT SETS stay", x.count(8), 1);
        granted(x, "run()", x.run(), 0);
        refused(x, "last(9)", x.last(9), 2);
        x.clear();
        due("it is never refused: trouble() stays", x.trouble(), 2);
    }

    // ------------------------------------------------------------------ promises 10 to 15

    private void rowsAndReasons() {
        sentence("10", "0 GOOD, 1 IDLE, 2 BROKEN.", this::runAnswers);
        sentence("10", "NONE: 1 (no BOOK).", this::runRefused);
        sentence("11", "Whether a ROW is there at a MACHINE in a TICK of the RUN of the FALLS told: 1, 0.", this::thereAnswers);
        sentence("11", "NONE: 1; 2 (a TICK).", this::thereRefused);
        sentence("12", "How many REASONS it has then.", this::reasonsAnswers);
        sentence("12", "NONE: likewise.", this::reasonsRefused);
        sentence("13", "0 FACT; 1,000 and 10 times the SEND and the TICK of sending; 2,000 and the TICK it was kept from; "
            + "3,000 and the RULE (next); 4,000 and the RULE (now)", this::reasonNumbers);
        sentence("13", "in this order, of like ones the lesser number first", this::reasonOrder);
        sentence("13", "NoSuchElementException if there is none such.", this::reasonThrows);
    }

    private void runAnswers() {
        FallTrials x = with(Books.PAIR);
        granted(x, "no FALLS", x.run(), 0);
        x.fall(0, 0, 3);
        granted(x, "the last WORD lost", x.run(), 2);
        x.fall(1, 0, 3);
        granted(x, "a down, too", x.run(), 1);
        x.clear();
        granted(x, "no FALLS again", x.run(), 0);
        x.fall(3, 0, 3);
        granted(x, "LATE", x.run(), 2);
        x.fall(3, 0, 1);
        granted(x, "the one of 1 comes in LAST", x.run(), 0);
    }

    private void runRefused() {
        FallTrials x = new FallTrials();
        refused(x, "a new object", x.run(), 1);
        Feeder.tell(x, "machine a;");
        refused(x, "no BOOK behind a FAULT", x.run(), 1);
        Feeder.tell(x, Books.PAIR);
        granted(x, "a BOOK", x.run(), 0);
        Feeder.tell(x, "machine a;");
        granted(x, "the BOOK stays behind a FAULT", x.run(), 0);
    }

    private void thereAnswers() {
        FallTrials x = with(Books.PAIR);
        granted(x, "y at b in 0", x.there(1, 1, 0), 0);
        granted(x, "y at b in 1", x.there(1, 1, 1), 1);
        granted(x, "y at a in 1", x.there(1, 0, 1), 0);
        granted(x, "x at a in 4", x.there(0, 0, 4), 1);
        granted(x, "x at b in 4", x.there(0, 1, 4), 0);
        x.fall(0, 0, 0);
        granted(x, "with the FALLS told", x.there(1, 1, 1), 0);
        x.clear();
        granted(x, "and without", x.there(1, 1, 1), 1);
        // The greatest ROW, MACHINE, TICK.
        x = with("machine a;machine b;machine c;machine d;row p;row q;row r;row s;row t;row u;row v;row w;row x;"
            + "row y kept;fact y at d;promise y at d gives y at d");
        x.last(6);
        granted(x, "there(9, 3, 6)", x.there(9, 3, 6), 1);
    }

    private void thereRefused() {
        FallTrials x = with(Books.PAIR);
        for (int row : new int[] {-1, 2, 9, 10, LEAST, MOST}) {
            refused(x, "row " + row, x.there(row, 0, 0), 1);
            refused(x, "1 is ahead of 2", x.there(row, 0, 5), 1);
        }
        for (int machine : new int[] {-1, 2, 3, 4, LEAST, MOST}) {
            refused(x, "machine " + machine, x.there(0, machine, 0), 1);
            refused(x, "1 is ahead of 2", x.there(0, machine, -1), 1);
        }
        for (int tick : new int[] {-1, 5, 6, 7, LEAST, MOST}) refused(x, "tick " + tick, x.there(0, 0, tick), 2);
        x = new FallTrials();
        refused(x, "no BOOK", x.there(0, 0, 0), 1);
        refused(x, "no BOOK is ahead of a TICK", x.there(0, 0, 9), 1);
    }

    private void reasonsAnswers() {
        FallTrials x = with(Books.TWICE);
        granted(x, "y at b in 0", x.reasons(1, 1, 0), 0);
        granted(x, "y at b in 1", x.reasons(1, 1, 1), 2);
        x.fall(3, 0, 0);
        x.fall(3, 1, 0);
        granted(x, "late", x.reasons(1, 1, 1), 0);
        granted(x, "four words", x.reasons(1, 1, 3), 4);
        x.fall(1, 1, 3);
        granted(x, "down", x.reasons(1, 1, 3), 0);
    }

    private void reasonsRefused() {
        FallTrials x = with(Books.PAIR);
        for (int row : new int[] {-1, 2, 9, 10, LEAST, MOST}) refused(x, "row " + row, x.reasons(row, 0, 9), 1);
        for (int machine : new int[] {-1, 2, 3, 4, LEAST, MOST}) refused(x, "machine " + machine, x.reasons(0, machine, 9), 1);
        for (int tick : new int[] {-1, 5, 6, 7, LEAST, MOST}) refused(x, "tick " + tick, x.reasons(0, 0, tick), 2);
        x = new FallTrials();
        refused(x, "no BOOK", x.reasons(0, 0, 0), 1);
    }

    private void reasonNumbers() {
        FallTrials x = with("machine a;machine b;row x kept;row y kept;fact x at a;fact y at b;"
            + "send y to b if x at a;send y to b if x at a;send x to a if y at b;send x to a if y at b;send x to a if y at b;"
            + "send x to a if y at b;rule y now if x;rule y now if x;rule y now if x;rule y now if x;rule y now if x;"
            + "rule y next if x;rule y next if x;rule y now if x;rule y next if x at b;rule y now if y;promise x at a gives y at b");
        x.last(6);
        due("FACT", x.reason(0, 0, 0, 0), 0);
        // x at a in 6: words of SENDS 2 to 5 of TICK 5, kept from 5.
        reasonsDue(x, 0, 0, 6, 1025, 1035, 1045, 1055, 2005);
        // y at a: RULES next 5 and 6, RULES now; RULE 8 is for b alone.
        reasonsDue(x, 1, 0, 6, 2005, 3005, 3006, 4000, 4001, 4002, 4003, 4004, 4007, 4009);
        reasonsDue(x, 1, 1, 1, 1000, 1010, 2000, 4009);
    }

    /** Of each sort two; a FACT has in its TICK none but RULES now beside it. */
    private void reasonOrder() {
        FallTrials x = with("machine a;machine b;row x kept;row y kept;fact x at b;fact y at b;fact x at a;"
            + "rule y now if x;rule y next if x;rule y now if y;rule y next if y;"
            + "send y to b if x at a;send x to a if x at b;send y to b if x at a;promise x at a gives y at b");
        reasonsDue(x, 1, 1, 0, 0, 4000, 4002);
        reasonsDue(x, 1, 1, 1, 1000, 1020, 2000, 3001, 3003, 4000, 4002);
        x.fall(3, 0, 0);
        x.fall(3, 2, 0);
        reasonsDue(x, 1, 1, 1, 2000, 3001, 3003, 4000, 4002);
        reasonsDue(x, 1, 1, 3, 1000, 1002, 1020, 1022, 2002, 3001, 3003, 4000, 4002);
    }

    private void reasonThrows() {
        FallTrials x = with(Books.PAIR);
        refused(x, "a call refused by 2", x.there(0, 0, 9), 2);
        due("reason(1, 1, 1, 0)", x.reason(1, 1, 1, 0), 1000);
        due("trouble() stays", x.trouble(), 2);
        for (int i : new int[] {-1, 1, 2, 99, LEAST, MOST}) throwsNone("i " + i, () -> x.reason(1, 1, 1, i));
        throwsNone("a ROW that isn't there", () -> x.reason(1, 1, 0, 0));
        for (int row : new int[] {-1, 2, 10, LEAST, MOST}) throwsNone("row " + row, () -> x.reason(row, 0, 0, 0));
        for (int machine : new int[] {-1, 2, 4, LEAST, MOST}) throwsNone("machine " + machine, () -> x.reason(0, machine, 0, 0));
        for (int tick : new int[] {-1, 5, 7, LEAST, MOST}) throwsNone("tick " + tick, () -> x.reason(0, 0, tick, 0));
        due("trouble() stays", x.trouble(), 2);
        FallTrials none = new FallTrials();
        throwsNone("no BOOK", () -> none.reason(0, 0, 0, 0));
        due("no number is told for it", none.trouble(), 0);
    }

    private void wordsOfRuns() {
        sentence("14", "0 it isn't sent; 1 it comes in time; 2 LOST; 3 it comes LATE; 4 it is lost since the MACHINE is DOWN, "
            + "or LAST is behind.", this::wordAnswers);
        sentence("14", "NONE: 1; 2 (a TICK, LAST too).", this::wordRefused);
    }

    private void wordAnswers() {
        FallTrials x = with("machine a;machine b;row x kept;row y;fact x at a;send y to b if x at a;send y to a if y at b;"
            + "promise x at a gives y at b");
        x.last(6);
        wordsDue(x, 0, 1, 1, 1, 1, 1, 1);
        wordsDue(x, 1, 0, 1, 1, 1, 1, 1);
        x.fall(0, 0, 0);
        x.fall(3, 0, 1);
        x.fall(2, 1, 3);
        x.fall(3, 0, 3);
        x.fall(3, 0, 4);
        // b: away in 3 and 4. The word of 1 would come in 4, that of 2 in 3: down; of 3 in 6; of 4 behind LAST.
        wordsDue(x, 0, 2, 4, 4, 3, 4, 1);
        // b has y in 6 alone.
        wordsDue(x, 1, 0, 0, 0, 0, 0, 0);
        thereDue(x, 1, 1, 0, 0, 0, 0, 0, 0, 1);
        // One that isn't sent is 0, whatever it is hit by.
        x.fall(0, 1, 5);
        wordsDue(x, 1, 0, 0, 0, 0, 0, 0);
    }

    private void wordRefused() {
        FallTrials x = with(Books.PAIR);
        for (int send : new int[] {-1, 1, 5, 6, LEAST, MOST}) {
            refused(x, "send " + send, x.word(send, 0), 1);
            refused(x, "1 is ahead of 2", x.word(send, 9), 1);
        }
        for (int tick : new int[] {-1, 4, 5, 7, LEAST, MOST}) refused(x, "tick " + tick, x.word(0, tick), 2);
        granted(x, "LAST less 1", x.word(0, 3), 1);
        x.last(6);
        granted(x, "LAST less 1", x.word(0, 5), 1);
        refused(x, "LAST", x.word(0, 6), 2);
        x = new FallTrials();
        refused(x, "no BOOK", x.word(0, 0), 1);
        x = with("machine a;row x;promise x at a gives x at a");
        refused(x, "no SEND", x.word(0, 0), 1);
    }

    private void firstDifference() {
        sentence("15", "Of the FIRST DIFFERENCE what 0 TICK, 1 MACHINE, 2 ROW, 3 whether it is there with the FALLS (1).",
            this::differsAnswers);
        sentence("15", "-2 if there is none.", this::differsInNothing);
        sentence("15", "NONE: 1 (no BOOK, what).", this::differsRefused);
        sentence("III", "the least TICK, MACHINE, ROW that is there in one alone", this::leastDifference);
    }

    private void differsAnswers() {
        FallTrials x = with(Books.PAIR);
        x.fall(0, 0, 2);
        differsDue(x, 3, 1, 1, 0);
        x.fall(3, 0, 0);
        differsDue(x, 1, 1, 1, 0);
        // y comes in 3 with the FALLS alone.
        x = with("machine a;machine b;row x;row y;fact x at a;send y to b if x at a;send y to b if x at a;"
            + "promise x at a gives y at b");
        x.fall(3, 1, 0);
        differsDue(x, 3, 1, 1, 1);
    }

    private void differsInNothing() {
        FallTrials x = with(Books.PAIR);
        differsDue(x, -2, -2, -2, -2);
        // Hits without a difference: a word that isn't sent, one of two, a machine without rows.
        x = with("machine a;machine b;machine c;row x kept;row y;fact x at a;send y to b if x at a;send y to b if x at a;"
            + "send y to b if y at a;promise x at a gives y at b");
        x.fall(0, 2, 1);
        x.fall(0, 0, 1);
        x.fall(1, 2, 0);
        differsDue(x, -2, -2, -2, -2);
    }

    private void differsRefused() {
        FallTrials x = new FallTrials();
        for (int what : new int[] {0, 3, 4}) refused(x, "no BOOK", x.differs(what), 1);
        x = with(Books.PAIR);
        for (int what : new int[] {-2, -1, 4, 5, LEAST, MOST}) refused(x, "differs(" + what + ")", x.differs(what), 1);
    }

    private void leastDifference() {
        // Rows told p q at a and at b; all go at one tick: the least TICK, then MACHINE, then ROW.
        FallTrials x = with("machine a;machine b;row p kept;row q kept;fact q at a;fact q at b;fact p at b;fact p at a;"
            + "promise p at a gives p at b");
        x.fall(1, 1, 1);
        differsDue(x, 1, 1, 0, 0);
        x.fall(1, 0, 2);
        differsDue(x, 1, 1, 0, 0);
        x.fall(2, 0, 1);
        differsDue(x, 1, 0, 0, 0);
        x.fall(2, 1, 0);
        differsDue(x, 0, 1, 0, 0);
        // In LAST alone; in the first and in the last MACHINE.
        x = with(Books.PAIR);
        x.fall(0, 0, 3);
        differsDue(x, 4, 1, 1, 0);
        x.fall(1, 0, 3);
        differsDue(x, 3, 0, 0, 0);
        // In one TICK the lesser ROW comes with the FALLS, the greater goes; and the other way round.
        for (int turn = 0; turn < 2; turn++) {
            String rows = turn == 0 ? "row p;row q;" : "row q;row p;";
            x = with("machine a;machine b;row x;row w kept;" + rows + "fact x at a;fact w at a;send p to b if x at a;"
                + "send p to b if x at a;send q to b if w at a;promise x at a gives p at b");
            x.fall(3, 1, 0);
            x.fall(0, 2, 2);
            differsDue(x, 3, 1, 2, 1 - turn);
        }
    }
}
