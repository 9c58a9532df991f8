import java.util.NoSuchElementException;

/** The promises one by one, worked out by hand from the document. */
public final class PromiseTest {
    private static int checked;
    private static int wrong;
    private static int promise;

    private PromiseTest() {
    }

    public static void main(String[] args) {
        newObject();
        feedTape();
        readBook();
        readFaults();
        faultAndWhere();
        setLast();
        setPurse();
        tellFalls();
        clearFalls();
        runs();
        rowsThere();
        whyThere();
        words();
        firstDifference();
        spoilt();
        standing();
        trials();
        trialAnswers();
        exactRuns();
        cutDown();
        toldFalls();
        starts();
        thinStarts();
        chains();
        tellMends();
        keepSets();
        fitMends();
        leastMends();
        makeMends();
        counts();
        troubles();
        System.out.println("PromiseTest: " + checked + " answers, " + wrong + " not as due");
        if (wrong != 0) System.exit(1);
    }

    private static void due(String what, int got, int want) {
        checked++;
        if (got != want) {
            wrong++;
            System.out.println("promise " + promise + ": " + what + " answered " + got + ", due is " + want);
        }
    }

    private static void due(String what, boolean got, boolean want) {
        due(what, got ? 1 : 0, want ? 1 : 0);
    }

    /** A call that is refused with a number. */
    private static void refused(FallTrials x, String what, int got, int trouble) {
        due(what, got, FallTrials.NONE);
        due(what + ", trouble()", x.trouble(), trouble);
    }

    private static void refused(FallTrials x, String what, boolean got, int trouble) {
        due(what, got, false);
        due(what + ", trouble()", x.trouble(), trouble);
    }

    private static void granted(FallTrials x, String what, int got, int want) {
        due(what, got, want);
        due(what + ", trouble()", x.trouble(), 0);
    }

    private static FallTrials with(String text) {
        FallTrials x = new FallTrials();
        if (Feeder.tell(x, text) == FallTrials.NONE) {
            wrong++;
            System.out.println("promise " + promise + ": fault " + x.fault() + " at " + x.where() + " of " + text);
        }
        return x;
    }

    private static void reasonDue(FallTrials x, int row, int machine, int tick, int... want) {
        String what = "(" + row + ", " + machine + ", " + tick + ")";
        due("reasons" + what, x.reasons(row, machine, tick), want.length);
        for (int i = 0; i < want.length; i++) due("reason" + what + " " + i, reasonOr(x, row, machine, tick, i), want[i]);
        due("reason" + what + " behind", reasonOr(x, row, machine, tick, want.length), -9);
        due("reason" + what + " -1", reasonOr(x, row, machine, tick, -1), -9);
    }

    /** -9 stands for NoSuchElementException. */
    private static int reasonOr(FallTrials x, int row, int machine, int tick, int i) {
        try {
            return x.reason(row, machine, tick, i);
        } catch (NoSuchElementException e) {
            return -9;
        }
    }

    private static void chainDue(FallTrials x, int... want) {
        for (int i = 0; i < want.length; i++) due("led " + i, ledOr(x, i), want[i]);
        due("led behind", ledOr(x, want.length), -9);
        due("led -1", ledOr(x, -1), -9);
    }

    private static int ledOr(FallTrials x, int i) {
        try {
            return x.led(i);
        } catch (NoSuchElementException e) {
            return -9;
        }
    }

    private static void newObject() {
        promise = 1;
        FallTrials x = new FallTrials();
        due("trouble()", x.trouble(), 0);
        due("fault()", x.fault(), 0);
        due("where()", x.where(), -1);
        due("clear()", x.clear(), 0);
        due("tried()", x.tried(), -1);
        due("known()", x.known(), -1);
        due("found(0)", x.found(0), -1);
        due("exactly(0)", x.exactly(0), -1);
        due("thinness()", x.thinness(), -1);
        due("told(0)", x.told(0), -1);
        for (int what = 0; what < 14; what++) due("count " + what, x.count(what), 0);
        due("reason", reasonOr(x, 0, 0, 0, 0), -9);
        due("led", ledOr(x, 0), -9);
        due("NONE", FallTrials.NONE, -1);
        refused(x, "last(4)", x.last(4), 1);
        refused(x, "last(9)", x.last(9), 1);
        refused(x, "purse(0, 1)", x.purse(0, 1), 1);
        refused(x, "purse(0, 9)", x.purse(0, 9), 1);
        refused(x, "fall(0, 0, 0)", x.fall(0, 0, 0), 1);
        refused(x, "fall(1, 0, 0)", x.fall(1, 0, 0), 1);
        refused(x, "run()", x.run(), 1);
        refused(x, "there(0, 0, 0)", x.there(0, 0, 0), 1);
        refused(x, "reasons(0, 0, 0)", x.reasons(0, 0, 0), 1);
        refused(x, "word(0, 0)", x.word(0, 0), 1);
        refused(x, "differs(0)", x.differs(0), 1);
        refused(x, "spoils()", x.spoils(), 1);
        refused(x, "stands(0, 0, 0)", x.stands(0, 0, 0), 1);
        refused(x, "trial(0)", x.trial(0), 1);
        refused(x, "exact()", x.exact(), 1);
        refused(x, "cut()", x.cut(), 1);
        refused(x, "start(0)", x.start(0), 1);
        refused(x, "thin()", x.thin(), 1);
        refused(x, "mend(0, 0)", x.mend(0, 0), 1);
        refused(x, "keep()", x.keep(), 1);
        refused(x, "fit(0)", x.fit(0), 1);
        refused(x, "least()", x.least(), 1);
        refused(x, "make(0)", x.make(0), 1);
    }

    private static void feedTape() {
        promise = 2;
        FallTrials x = new FallTrials();
        for (int i = 1; i <= 35; i++) due("feed " + i, x.feed(0x20202020, 0x20202020, 0x20202020, 0x20202020, 0x20202020), 20 * i);
        due("feed 36", x.feed(0, 0, 0, 0, 0), -1);
        due("trouble()", x.trouble(), 0);
        due("count(13)", x.count(13), 700);
        due("book(700)", x.book(700), -1);
        due("where() of blanks alone", x.where(), 700);
        due("count(13)", x.count(13), 0);
        // The highest byte of each number comes first: "machine a;row x;prom", then "ise x at a gives x a", "t a".
        due("feed", x.feed(0x6d616368, 0x696e6520, 0x613b726f, 0x7720783b, 0x70726f6d), 20);
        due("feed", x.feed(0x69736520, 0x78206174, 0x20612067, 0x69766573, 0x20782061), 40);
        due("feed", x.feed(0x74206100, 0, 0, 0, 0), 60);
        due("book(43)", x.book(43), 0);
        // A negative number's bytes are no letters.
        due("feed", x.feed(0x6d616368, 0x696e6520, -1, -1, -1), 20);
        due("book(20)", x.book(20), -1);
        due("fault()", x.fault(), 1);
        due("where()", x.where(), 8);
    }

    private static void readBook() {
        promise = 3;
        FallTrials x = new FallTrials();
        refused(x, "book(-1)", x.book(-1), 2);
        refused(x, "book(1)", x.book(1), 2);
        Feeder.feed(x, Books.LOGS);
        int fed = x.count(13);
        refused(x, "book(fed + 1)", x.book(fed + 1), 2);
        due("count(13): the tape stays", x.count(13), fed);
        granted(x, "book", x.book(Books.LOGS.length()), 3);
        due("count(13)", x.count(13), 0);
        granted(x, "book with blanks behind", bookWithBlanks(x), 3);
        for (int i = 0; i < 7; i++) due("count " + i, x.count(i), new int[] {3, 3, 1, 1, 2, 4, 0}[i]);

        // All that hangs on a BOOK begins anew with the next.
        x.last(3);
        x.purse(0, 2);
        x.fall(0, 0, 0);
        x.keep();
        x.mend(0, 0);
        x.trial(100);
        x.exact();
        x.clear();
        x.fall(1, 0, 0);
        Feeder.tell(x, "machine a; machine a");
        due("count(3): the book stays", x.count(3), 1);
        due("count(5) stays", x.count(5), 3);
        due("count(6) stays", x.count(6), 1);
        due("count(7) stays", x.count(7), 1);
        due("count(8) stays", x.count(8), 1);
        due("tried() stays", x.tried() >= 0, true);
        Feeder.tell(x, Books.STARTS);
        due("count(5)", x.count(5), 4);
        due("count(6)", x.count(6), 0);
        due("count(7)", x.count(7), 0);
        due("count(8)", x.count(8), 0);
        due("count(9)", x.count(9), 16);
        due("count(12)", x.count(12), 3);
        due("tried()", x.tried(), -1);
        due("known()", x.known(), -1);
        due("found(0)", x.found(0), -1);
        due("exactly(0)", x.exactly(0), -1);
        x.last(1);
        x.start(0);
        x.thin();
        due("thinness()", x.thinness(), 1);
        Feeder.tell(x, Books.RETRY);
        due("thinness()", x.thinness(), -1);
        // What was made in the old BOOK isn't made in the new one.
        x.mend(1, 0);
        x.make(1);
        x.fall(0, 0, 0);
        Feeder.tell(x, Books.LOGS);
        due("word(0, 1): not sent again", x.word(0, 1), 0);
        booksInTurn();
    }

    /** Nothing of a BOOK's LINES comes up again in a later one. */
    private static void booksInTurn() {
        FallTrials x = new FallTrials();
        String denied = "machine a; machine b; row p kept; row q kept; row r; fact p at a; fact q at a maybe;"
            + "rule r next if p and not q at a; send p to b if not q at a; promise p at a gives r at a";
        String plain = "machine a; machine b; row p kept; row q kept; row r; fact p at b; fact q at b;"
            + "rule r next if q; send q to a if q at b; promise p at b gives r at a";
        for (int i = 0; i < 5; i++) {
            due("book", Feeder.tell(x, denied), 2);
            due("count(11)", x.count(11), 1);
            due("run()", x.run(), 2);
            due("word(0, 0)", x.word(0, 0), 0);
            x.start(0);
            due("run()", x.run(), 0);
            reasonDue(x, 2, 0, 1, 3000);
            chainDue(x, 4002, 3000, 2000, 1000, 0);
            x.mend(2, 0);
            x.make(1);
            due("book", Feeder.tell(x, plain), 2);
            due("count(2)", x.count(2), 2);
            due("count(11)", x.count(11), 0);
            due("run()", x.run(), 0);
            reasonDue(x, 2, 1, 1, 3000);
            reasonDue(x, 2, 0, 2, 3000);
            chainDue(x, 4002, 3001, 2101, 1101, 101);
            due("b reads no second fault", Feeder.tell(x, plain + ";"), -1);
        }
    }

    private static int bookWithBlanks(FallTrials x) {
        Feeder.feed(x, "     " + Books.LOGS + "     ");
        return x.book(x.count(13));
    }

    private static void faultDue(String text, int fault, int place) {
        FallTrials x = new FallTrials();
        String what = "'" + text + "'";
        due(what, Feeder.tell(x, text), -1);
        due(what + " trouble()", x.trouble(), 4);
        due(what + " fault()", x.fault(), fault);
        due(what + " where()", x.where(), place);
    }

    private static void readFaults() {
        promise = 4;
        // FORM
        faultDue("", 1, 0);
        faultDue("   ", 1, 3);
        faultDue(";", 1, 0);
        faultDue("machine", 1, 7);
        faultDue("machine ;", 1, 8);
        faultDue("machine row;", 1, 8);
        faultDue("machine a b;", 1, 10);
        faultDue("machine a kept;", 1, 10);
        faultDue("machine A;", 1, 8);
        faultDue("machine a9;", 1, 9);
        faultDue("machine abcdefghi;", 1, 8);
        faultDue("machine abcdefgh; machine abcdefgh", 3, 26);
        faultDue("machine a;; row x", 1, 10);
        faultDue("machine a; row not", 1, 15);
        faultDue("machine a; row x; fact x at a kept", 1, 30);
        faultDue("machine a; row x; fact x a", 1, 25);
        faultDue("machine a; row x; rule x now if x at a at a", 1, 39);
        faultDue("machine a; row x; rule x now if x and", 1, 37);
        faultDue("machine a; row x; rule x now if not x", 1, 32);
        faultDue("machine a; row x; rule x next if not not x", 1, 37);
        faultDue("machine a; row x; rule x next x", 1, 30);
        faultDue("machine a; machine b; row x; send x to a if x;", 1, 45);
        faultDue("machine a; machine b; row x; send x to a if x at b maybe;", 1, 51);
        faultDue("machine a; row x; promise x at a or x at a gives x at a", 1, 33);
        faultDue("machine a; row x; promise x at a gives x at a and x at a", 1, 46);
        faultDue("machine a; row x; promise x at a gives x at a;", 1, 45);
        faultDue("machine a; row x; promise x at a gives", 1, 38);
        faultDue("machine a; row x; promise gives x at a", 2, 26);
        faultDue("hello", 1, 0);
        // NAMES not told, or of the other sort
        faultDue("fact x at a", 2, 5);
        faultDue("machine a; fact a at a", 2, 16);
        faultDue("machine a; row x; fact x at x", 2, 28);
        faultDue("machine a; row x; fact x at b", 2, 28);
        faultDue("row x; rule x now if y", 2, 21);
        faultDue("row x; rule x next if not y", 2, 26);
        faultDue("machine a; row x; rule x now if x at x", 2, 37);
        faultDue("machine a; row x; send x to x if x at a", 2, 28);
        faultDue("machine a; row x; promise a at x", 2, 26);
        // told again; a SEND to the one that sends
        faultDue("machine a; machine a", 3, 19);
        faultDue("row a; machine a", 3, 15);
        faultDue("row a; row a", 3, 11);
        faultDue("machine a; row x; send x to a if x at a", 3, 38);
        // MANY
        faultDue("machine a; machine b; machine c; machine d; machine !", 5, 44);
        faultDue(rowsText(10) + "row", 5, rowsText(10).length());
        faultDue("machine a; row x; " + "fact x at a; ".repeat(10) + "fact", 5, 18 + 130);
        faultDue("row x; " + "rule x now if x; ".repeat(10) + "rule", 5, 7 + 170);
        faultDue("row x; " + "rule x next if x;".repeat(5) + "rule x now if x;".repeat(5) + "rule", 5, 7 + 85 + 80);
        faultDue("machine a;machine b;row x;" + "send x to a if x at b;".repeat(6) + "send", 5, 26 + 132);
        faultDue("row x; rule x next if x and x and x and x", 5, 40);
        faultDue("row x; rule x next if x and x and x and not x", 5, 40);
        faultDue("row x; rule x next if x and x and x and not", 5, 40);
        faultDue("machine a; row x; promise x at a and x at a and x at a and x at a", 5, 59);
        faultDue("machine a; row x; promise x at a gives x at a or x at a or x at a or x", 5, 69);
        // the least number of one place
        faultDue("row x; rule x next if x and x and x and y", 2, 40);
        faultDue("row x; rule x next if x and x and x and ;", 1, 40);
        faultDue("row x; rule x now if x and x and x and not", 1, 39);
        faultDue("machine a; row x; promise x at a and x at a and x at a and y", 2, 59);
        // the first from the left
        faultDue("fact x at a; !", 2, 5);
        // Rooms that are just full are no FAULTS, and words that are no NAMES elsewhere may be NAMES.
        FallTrials x = with("machine kept; machine gives; machine to; machine now;" + rowsText(8)
            + "row next; row maybe kept; fact maybe at kept maybe;"
            + "rule next next if a and not b and c at now; send maybe to to if next and not a and b at gives;"
            + "promise maybe at kept and next at now and a at to gives a at to or b at to or c at kept");
        due("count(0)", x.count(0), 4);
        due("count(1)", x.count(1), 10);
        due("count(11)", x.count(11), 1);
        // NAMES that begin with a word that is none, or with one another.
        x = with("machine rows; machine ata; row ifs kept; row nota; row ands; row orx; row b; row bb; row bbbbbbbb;"
            + "fact ifs at rows; fact b at ata; rule nota next if ifs and not ands at rows; rule bb now if b;"
            + "send orx to ata if nota and not ands at rows; promise ifs at rows gives orx at ata");
        due("count(1)", x.count(1), 7);
        due("orx at ata", x.run(), 0);
        due("bb at ata", x.there(5, 1, 0), 1);
        due("bbbbbbbb at ata", x.there(6, 1, 0), 0);
        faultDue("machine a; rowx b;", 1, 11);
        faultDue("machine a; row x; fact x att a", 1, 25);
        faultDue("machine a; row x keptx;", 1, 17);
        x = with("machine a;machine b;row x;" + "fact x at a;".repeat(10) + "rule x now if x;".repeat(10)
            + "send x to a if x at b;".repeat(6) + "promise x at a gives x at a");
        due("count(2)", x.count(2), 10);
        due("count(3)", x.count(3), 10);
        due("count(4)", x.count(4), 6);
    }

    private static String rowsText(int many) {
        StringBuilder b = new StringBuilder();
        for (int i = 0; i < many; i++) b.append("row ").append((char) ('a' + i)).append("; ");
        return b.toString();
    }

    private static void faultAndWhere() {
        promise = 5;
        FallTrials x = new FallTrials();
        Feeder.tell(x, "machine a; machine a");
        due("fault()", x.fault(), 3);
        due("where()", x.where(), 19);
        x.feed(0, 0, 0, 0, 0);
        x.count(0);
        x.clear();
        due("where() behind calls that are never refused by a number", x.where(), 19);
        due("run()", x.run(), -1);
        due("where() behind another refusal", x.where(), -1);
        due("fault()", x.fault(), 3);
        due("book(-1)", x.book(-1), -1);
        due("fault() behind a refusal by 2", x.fault(), 3);
        due("where()", x.where(), -1);
        x.book(0);
        due("fault()", x.fault(), 1);
        due("where()", x.where(), 0);
        Feeder.tell(x, Books.IDLE_BOOK);
        due("fault()", x.fault(), 0);
        due("where()", x.where(), -1);
    }

    private static void setLast() {
        promise = 6;
        FallTrials x = with(Books.LOGS);
        x.fall(0, 0, 0);
        x.keep();
        refused(x, "last(0)", x.last(0), 2);
        refused(x, "last(7)", x.last(7), 2);
        refused(x, "last(-1)", x.last(-1), 2);
        due("count(6)", x.count(6), 1);
        due("count(8)", x.count(8), 1);
        due("last(6)", x.last(6), true);
        due("trouble()", x.trouble(), 0);
        due("count(5)", x.count(5), 6);
        due("count(6)", x.count(6), 0);
        due("count(8)", x.count(8), 0);
        due("there(2, 1, 6)", x.there(2, 1, 6), 1);
        due("last(1)", x.last(1), true);
        due("run()", x.run(), 0);
        x.fall(1, 0, 0);
        x.last(1);
        due("count(6): the same LAST too", x.count(6), 0);
        // What the latest trial() did stays.
        x.trial(5);
        int tried = x.tried();
        x.last(2);
        due("tried()", x.tried(), tried);
    }

    private static void setPurse() {
        promise = 7;
        FallTrials x = with(Books.LOGS);
        refused(x, "purse(-1, 0)", x.purse(-1, 0), 1);
        refused(x, "purse(4, 9)", x.purse(4, 9), 1);
        refused(x, "purse(0, -1)", x.purse(0, -1), 2);
        refused(x, "purse(0, 4)", x.purse(0, 4), 2);
        refused(x, "purse(0, 3)", x.purse(0, 3), 2);
        due("count(9)", x.count(9), 8 + 12);
        due("purse(0, 2)", x.purse(0, 2), true);
        refused(x, "purse(2, 1)", x.purse(2, 1), 2);
        due("purse(1, 0)", x.purse(1, 0), true);
        due("count(9)", x.count(9), 8);
        due("count(10)", x.count(10), 8 + 28);
        due("purse(3, 1)", x.purse(3, 1), true);
        due("count(9)", x.count(9), 16);
        due("count(10)", x.count(10), (1 + 8 + 28) * (1 + 8) - 1);
        x.purse(0, 0);
        x.purse(3, 0);
        due("purse(2, 3)", x.purse(2, 3), true);
        due("count(9)", x.count(9), 12);
        due("count(10)", x.count(10), 12 + 66 + 220);
        x.purse(2, 0);
        due("count(9)", x.count(9), 0);
        due("count(10)", x.count(10), 0);
    }

    private static void tellFalls() {
        promise = 8;
        FallTrials x = with(Books.LOGS);
        refused(x, "fall(-1, 0, 0)", x.fall(-1, 0, 0), 1);
        refused(x, "fall(4, 0, 9)", x.fall(4, 0, 9), 1);
        refused(x, "fall(0, 2, 0)", x.fall(0, 2, 0), 1);
        refused(x, "fall(3, 2, 9)", x.fall(3, 2, 9), 1);
        refused(x, "fall(1, 3, 0)", x.fall(1, 3, 0), 1);
        refused(x, "fall(2, -1, 0)", x.fall(2, -1, 0), 1);
        refused(x, "fall(0, 0, -1)", x.fall(0, 0, -1), 2);
        refused(x, "fall(0, 0, 4)", x.fall(0, 0, 4), 2);
        granted(x, "fall(1, 2, 3)", x.fall(1, 2, 3), 1);
        granted(x, "fall(2, 2, 0)", x.fall(2, 2, 0), 2);
        granted(x, "fall(3, 1, 3)", x.fall(3, 1, 3), 3);
        granted(x, "fall(0, 1, 3)", x.fall(0, 1, 3), 4);
        granted(x, "fall(0, 0, 0)", x.fall(0, 0, 0), 5);
        granted(x, "fall(0, 0, 1)", x.fall(0, 0, 1), 6);
        refused(x, "told already, before room", x.fall(0, 0, 0), 5);
        refused(x, "a seventh", x.fall(0, 0, 2), 3);
        for (int i = 0; i < 6; i++) due("told " + i, x.told(i), new int[] {0, 1, 13, 123, 220, 313}[i]);
    }

    private static void clearFalls() {
        promise = 9;
        FallTrials x = with(Books.LOGS);
        due("clear()", x.clear(), 0);
        x.fall(0, 0, 0);
        x.fall(0, 0, 1);
        x.fall(0, 0, 9);
        due("clear()", x.clear(), 2);
        due("trouble() is still that of fall()", x.trouble(), 2);
        due("told(0)", x.told(0), -1);
        due("clear()", x.clear(), 0);
    }

    private static void runs() {
        promise = 10;
        FallTrials x = with(Books.LOGS);
        granted(x, "run()", x.run(), 0);
        x.fall(0, 0, 0);
        granted(x, "one word lost", x.run(), 0);
        x.fall(0, 1, 0);
        granted(x, "both lost", x.run(), 2);
        x.fall(1, 0, 3);
        granted(x, "c down at the end", x.run(), 1);
        x.clear();
        // Away in tick 3 and the next, which is LAST: no ack there.
        x.fall(2, 0, 3);
        granted(x, "c away at the end", x.run(), 1);
        x.clear();
        x.fall(2, 0, 2);
        granted(x, "c back at the end, ack kept over it", x.run(), 0);
        x.clear();
        x.fall(1, 0, 0);
        granted(x, "c down from the first on", x.run(), 1);
        x = with(Books.LOST_CAUSE);
        granted(x, "broken without falls", x.run(), 2);
        x = with(Books.IDLE_BOOK);
        granted(x, "idle", x.run(), 1);
        // Late: sent in 0, comes in 3; in time for LAST 3, not for LAST 2.
        x = with(Books.LOGS);
        x.last(3);
        x.fall(3, 0, 0);
        x.fall(0, 1, 0);
        due("late, in time", x.run(), 0);
        x.last(2);
        x.fall(3, 0, 0);
        x.fall(0, 1, 0);
        due("late, behind LAST", x.run(), 2);
    }

    private static void rowsThere() {
        promise = 11;
        FallTrials x = with(Books.LOGS);
        refused(x, "there(3, 0, 0)", x.there(3, 0, 0), 1);
        refused(x, "there(-1, 0, 9)", x.there(-1, 0, 9), 1);
        refused(x, "there(0, 3, 0)", x.there(0, 3, 0), 1);
        refused(x, "there(0, -1, 0)", x.there(0, -1, 0), 1);
        refused(x, "there(0, 0, 5)", x.there(0, 0, 5), 2);
        refused(x, "there(0, 0, -1)", x.there(0, 0, -1), 2);
        x.fall(2, 1, 1);
        // log was sent to a for tick 1, when it is away: never there. b has it from 1 on.
        for (int tick = 0; tick <= 4; tick++) {
            granted(x, "there(2, 1, " + tick + ")", x.there(2, 1, tick), 0);
            granted(x, "there(2, 2, " + tick + ")", x.there(2, 2, tick), tick > 0 ? 1 : 0);
        }
        x.clear();
        x.fall(2, 1, 2);
        int[] log = {0, 1, 0, 0, 1};
        for (int tick = 0; tick <= 4; tick++) due("away in 2 and 3", x.there(2, 1, tick), log[tick]);
        // Rules: next with not, one MACHINE alone, now again and again.
        x = with("machine a; machine b; row p; row q; row r; row s kept; fact p at a; fact p at b;"
            + "rule q next if p and not r; rule p next if q at b; rule r now if q; rule s now if r and q;"
            + "promise s at a gives s at b");
        int[][] a = {{1, 0, 0, 0}, {0, 1, 1, 1}, {0, 0, 0, 1}, {0, 0, 0, 1}, {0, 0, 0, 1}};
        int[][] b = {{1, 0, 0, 0}, {0, 1, 1, 1}, {1, 0, 0, 1}, {0, 1, 1, 1}, {1, 0, 0, 1}};
        for (int tick = 0; tick <= 4; tick++) {
            for (int row = 0; row < 4; row++) {
                due("a " + row + " " + tick, x.there(row, 0, tick), a[tick][row]);
                due("b " + row + " " + tick, x.there(row, 1, tick), b[tick][row]);
            }
        }
        // At a MACHINE that was DOWN no CASE holds, not even one behind not.
        x = with("machine a; row p kept; row q; fact p at a; rule q next if not q; promise p at a gives p at a");
        x.fall(2, 0, 1);
        int[] q = {0, 0, 0, 0, 1};
        for (int tick = 0; tick <= 4; tick++) due("q in " + tick, x.there(1, 0, tick), q[tick]);
    }

    private static void whyThere() {
        promise = 13;
        FallTrials x = with(Books.LOGS);
        refused(x, "reasons(3, 0, 0)", x.reasons(3, 0, 0), 1);
        refused(x, "reasons(0, 3, 0)", x.reasons(0, 3, 0), 1);
        refused(x, "reasons(0, 0, 5)", x.reasons(0, 0, 5), 2);
        due("reason of no row", reasonOr(x, 3, 0, 0, 0), -9);
        due("reason of no machine", reasonOr(x, 0, -1, 0, 0), -9);
        due("reason in no tick", reasonOr(x, 0, 0, 5, 0), -9);
        due("reason() leaves trouble() alone", x.trouble(), 2);
        reasonDue(x, 0, 0, 0, 0);
        reasonDue(x, 1, 0, 0, 4000);
        reasonDue(x, 1, 0, 1, 2000);
        reasonDue(x, 2, 2, 1, 1010);
        reasonDue(x, 2, 2, 2, 2001);
        reasonDue(x, 2, 0, 1);
        x.fall(2, 2, 2);
        reasonDue(x, 2, 2, 3);
        reasonDue(x, 2, 2, 4, 2001);
        // Behind a TICK in which the MACHINE was DOWN no RULE next is a reason.
        x = with("machine a; row p kept; row q kept; fact p at a; rule q next if not q; rule q next if p;"
            + "promise p at a gives p at a");
        x.fall(2, 0, 1);
        due("reason() asked for first", reasonOr(x, 0, 0, 3, 0), 2000);
        reasonDue(x, 1, 0, 3);
        reasonDue(x, 1, 0, 4, 3000, 3001);
        x.clear();
        due("reason() asked for first", reasonOr(x, 1, 0, 1, 1), 3001);
        reasonDue(x, 1, 0, 2, 2001, 3001);
        // All of them at once: late and early words, kept, next, now.
        x = with("machine a; machine b; row x kept; row y kept; fact x at a; fact y at b;"
            + "send y to a if y at b; send y to a if y at b;"
            + "rule y next if x; rule y now if x; rule y next if y; rule y now if y; fact y at a; fact y at a maybe;"
            + "promise x at a gives y at a");
        x.fall(3, 1, 0);
        reasonDue(x, 1, 0, 3, 1002, 1010, 1012, 2002, 3000, 3002, 4001, 4003);
        reasonDue(x, 1, 0, 0, 0, 4001, 4003);
    }

    private static void words() {
        promise = 14;
        FallTrials x = with(Books.RETRY);
        refused(x, "word(2, 0)", x.word(2, 0), 1);
        refused(x, "word(-1, 9)", x.word(-1, 9), 1);
        refused(x, "word(0, 4)", x.word(0, 4), 2);
        refused(x, "word(0, -1)", x.word(0, -1), 2);
        int[] log = {1, 1, 0, 0};
        int[] got = {0, 1, 1, 1};
        for (int tick = 0; tick < 4; tick++) {
            granted(x, "word(0, " + tick + ")", x.word(0, tick), log[tick]);
            granted(x, "word(1, " + tick + ")", x.word(1, tick), got[tick]);
        }
        x.fall(0, 0, 0);
        due("lost", x.word(0, 0), 2);
        x.fall(3, 0, 0);
        due("lost and late", x.word(0, 0), 2);
        x.fall(3, 0, 1);
        due("late", x.word(0, 1), 3);
        x.fall(3, 0, 2);
        due("late, behind LAST", x.word(0, 2), 4);
        x.fall(1, 1, 3);
        due("the machine is down in 4", x.word(0, 1), 4);
        due("and lost all the same", x.word(0, 0), 2);
        x.clear();
        x.fall(2, 1, 1);
        due("away in 1", x.word(0, 0), 4);
        due("away in 2", x.word(0, 1), 4);
        due("back in 3", x.word(0, 2), 1);
        x.clear();
        x.fall(1, 0, 1);
        due("sent before it is down", x.word(0, 0), 1);
        due("not sent when down", x.word(0, 1), 0);
        due("to one that is down", x.word(1, 1), 4);
        x.clear();
        x.fall(0, 0, 3);
        due("lost, but never sent", x.word(0, 3), 0);
    }

    private static void firstDifference() {
        promise = 15;
        FallTrials x = with(Books.RETRY);
        refused(x, "differs(-1)", x.differs(-1), 1);
        refused(x, "differs(4)", x.differs(4), 1);
        for (int what = 0; what < 4; what++) granted(x, "none", x.differs(what), -2);
        x.fall(1, 0, 3);
        // c has put and got in tick 3 without falls: the least ROW is put.
        int[] down = {3, 0, 0, 0};
        for (int what = 0; what < 4; what++) granted(x, "down", x.differs(what), down[what]);
        x.clear();
        x.fall(0, 0, 0);
        int[] lost = {1, 1, 2, 0};
        for (int what = 0; what < 4; what++) granted(x, "lost", x.differs(what), lost[what]);
        // Of two MACHINES the lesser, of two ROWS the lesser.
        x = with("machine a; machine b; row q; row p; fact p at b; fact p at a; rule q now if p;"
            + "promise p at a gives p at b");
        x.fall(1, 1, 0);
        int[] one = {0, 1, 0, 0};
        for (int what = 0; what < 4; what++) granted(x, "b down", x.differs(what), one[what]);
        x.fall(1, 0, 0);
        int[] both = {0, 0, 0, 0};
        for (int what = 0; what < 4; what++) granted(x, "both down", x.differs(what), both[what]);
        // A ROW that is there with the FALLS alone: z comes in 1 by the other word all the same, and again in 3.
        x = with("machine a; machine b; row x; row z; fact x at a; send z to b if x at a; send z to b if x at a;"
            + "promise x at a gives z at b");
        x.fall(3, 0, 0);
        int[] late = {3, 1, 1, 1};
        for (int what = 0; what < 4; what++) granted(x, "late", x.differs(what), late[what]);
        // FALLS that hit nothing make no difference.
        x.clear();
        x.fall(0, 0, 2);
        for (int what = 0; what < 4; what++) granted(x, "no word", x.differs(what), -2);
    }

    private static void spoilt() {
        promise = 16;
        FallTrials x = with(Books.LOGS);
        granted(x, "no falls", x.spoils(), 0);
        x.fall(0, 0, 0);
        granted(x, "one way lost", x.spoils(), 0);
        x.fall(3, 1, 0);
        granted(x, "late counts as lost", x.spoils(), 1);
        x.clear();
        x.fall(1, 0, 0);
        granted(x, "the sender down", x.spoils(), 1);
        x.clear();
        x.fall(1, 0, 1);
        granted(x, "down behind the sending", x.spoils(), 0);
        x.fall(1, 1, 3);
        x.fall(2, 2, 3);
        granted(x, "both ends down in LAST", x.spoils(), 1);
        x.clear();
        x.fall(2, 1, 1);
        x.fall(2, 2, 2);
        // b has log in 4 kept from 3, which is away: the FORMULA knows that chain alone.
        granted(x, "kept over a gap", x.spoils(), 1);
        x = with(Books.LOST_CAUSE);
        refused(x, "broken", x.spoils(), 5);
        x = with(Books.IDLE_BOOK);
        granted(x, "idle: no place holds", x.spoils(), 1);
    }

    private static void standing() {
        promise = 17;
        FallTrials x = with(Books.LOGS);
        refused(x, "stands(3, 0, 0)", x.stands(3, 0, 0), 1);
        refused(x, "stands(0, 3, 9)", x.stands(0, 3, 9), 1);
        refused(x, "stands(0, 0, 5)", x.stands(0, 0, 5), 2);
        refused(x, "stands(0, 0, -1)", x.stands(0, 0, -1), 2);
        refused(x, "stands(0, 0, 1)", x.stands(0, 0, 1), 5);
        granted(x, "stands(0, 0, 0)", x.stands(0, 0, 0), 1);
        x.fall(1, 0, 1);
        granted(x, "ack in 0", x.stands(1, 0, 0), 1);
        granted(x, "ack in 1", x.stands(1, 0, 1), 0);
        granted(x, "log sent before", x.stands(2, 1, 4), 1);
        x.fall(2, 1, 2);
        granted(x, "before", x.stands(2, 1, 1), 1);
        granted(x, "away", x.stands(2, 1, 2), 0);
        granted(x, "away", x.stands(2, 1, 3), 0);
        granted(x, "kept from one that doesn't", x.stands(2, 1, 4), 0);
        // What holds itself up, round about, doesn't stand.
        x = with("machine a; machine b; row p kept; row q; row r; fact p at a; send q to b if p at a;"
            + "rule r now if q; rule q now if r; promise p at a gives r at b");
        x.last(1);
        granted(x, "round about, held up", x.stands(2, 1, 1), 1);
        x.fall(0, 0, 0);
        granted(x, "q round about", x.stands(1, 1, 1), 0);
        granted(x, "r round about", x.stands(2, 1, 1), 0);
        // NOW goes on again and again, whatever the order of the RULES.
        x = with("machine a; row p; row q; row r; row s; row t; fact p at a; rule t now if s; rule s now if r;"
            + "rule r now if q; rule q now if p; promise p at a gives t at a");
        granted(x, "there(4, 0, 0)", x.there(4, 0, 0), 1);
        granted(x, "stands(4, 0, 0)", x.stands(4, 0, 0), 1);
        granted(x, "stands(3, 0, 0)", x.stands(3, 0, 0), 1);
        // CASES behind not have no part in it; the MACHINE of the TICK ahead has.
        x = with("machine a; row p; row q kept; fact q at a; rule p next if not p; promise q at a gives p at a");
        x.last(3);
        granted(x, "p in 1", x.stands(0, 0, 1), 1);
        refused(x, "p in 2", x.stands(0, 0, 2), 5);
        granted(x, "p in 3", x.stands(0, 0, 3), 1);
        x.fall(2, 0, 0);
        granted(x, "p in 3", x.stands(0, 0, 3), 1);
        x.clear();
        x.fall(2, 0, 1);
        granted(x, "p in 3, away in 1 and 2", x.stands(0, 0, 3), 0);
        // The RUN without FALLS being BROKEN is no refusal here.
        x = with(Books.LOST_CAUSE);
        granted(x, "broken", x.stands(0, 0, 4), 1);
    }

    private static void trials() {
        promise = 18;
        FallTrials x = with(Books.LOGS);
        refused(x, "trial(0)", x.trial(0), 2);
        refused(x, "trial(101)", x.trial(101), 2);
        granted(x, "trial(100)", x.trial(100), 1);
        granted(x, "trial(3)", x.trial(3), 1);
        granted(x, "trial(2)", x.trial(2), 2);
        granted(x, "trial(1)", x.trial(1), 2);
        x.purse(1, 0);
        granted(x, "one word lost: holds", x.trial(1), 0);
        x = with(Books.IDLE_BOOK);
        refused(x, "idle", x.trial(5), 5);
        x = with(Books.LOST_CAUSE);
        refused(x, "broken", x.trial(5), 5);
        // 6 sends times 6 ticks, and 2 machines times 6 ticks: 48; with kind 3 84.
        x = with("machine a;machine b;row x kept;fact x at b;" + "send x to a if x at b;".repeat(6)
            + "promise x at b gives x at a");
        x.last(6);
        x.purse(0, 2);
        x.purse(1, 1);
        due("count(9)", x.count(9), 48);
        due("trial(100)", x.trial(100), 1);
        x.purse(1, 0);
        x.purse(3, 1);
        due("count(9)", x.count(9), 72);
        refused(x, "72 falls, a purse of 3", x.trial(100), 5);
        x.purse(0, 1);
        granted(x, "72 falls, a purse of 2", x.trial(100), 0);
        x.purse(0, 2);
        x.last(5);
        due("count(9)", x.count(9), 60);
        granted(x, "60 falls, a purse of 3", x.trial(100), 0);
        x.purse(0, 0);
        x.purse(3, 0);
        granted(x, "an empty purse", x.trial(1), 0);
        due("tried()", x.tried(), 0);
    }

    private static void trialAnswers() {
        promise = 19;
        FallTrials x = with(Books.LOGS);
        // Singles that spoil: c down in 0 (100) alone: idle. Then 0 with 110: a gets nothing, b's word
        // comes: the FORMULA of no falls is spoilt only where both ends are hit: {0, 100} has 100;
        // {0, 120}, {0, 121}, ... hit both. So 100 idle, {0, 100} idle, {0, 120} broken.
        due("trial(100)", x.trial(100), 1);
        due("tried()", x.tried(), 3);
        due("known()", x.known(), 1);
        due("found(0)", x.found(0), 0);
        due("found(1)", x.found(1), 120);
        due("found(2)", x.found(2), -1);
        due("found(-1)", x.found(-1), -1);
        due("trial(0)", x.trial(0), -1);
        due("tried() of one not refused", x.tried(), 3);
        due("found(1) of one not refused", x.found(1), 120);
        x.trial(2);
        due("tried()", x.tried(), 2);
        due("found(0)", x.found(0), -1);
        // Books.RETRY, words lost alone: {0, 1} spoils the first FORMULA; run, c asks again: its FORMULA is known.
        x = with(Books.RETRY);
        x.purse(1, 0);
        x.purse(0, 3);
        due("trial(100)", x.trial(100), 0);
        due("tried()", x.tried(), 1);
        due("known()", x.known(), 2);
        due("found(0)", x.found(0), -1);
        due("trial(1)", x.trial(1), 0);
        // A single that breaks: s down from 1 on.
        x = with(Books.RETRY);
        due("trial(100)", x.trial(100), 1);
        due("found(0)", x.found(0), 110);
        due("found(1)", x.found(1), -1);
        due("tried(): 100 idle, 110 broken", x.tried(), 2);
        trialWithAnotherWay();
        trialWithLateWords();
    }

    /** c asks b if a says nothing till tick 2: a FORMULA becomes known among the SETS of one FALL. */
    private static void trialWithAnotherWay() {
        FallTrials x = with("machine c; machine a; machine b; row put; row old; row older kept; row got kept; row log kept;"
            + "row ok kept; fact put at c; fact ok at c; send log to a if put at c; send got to c if log at a;"
            + "send log to b if older and not got at c; rule old next if put; rule older next if old;"
            + "promise ok at c gives log at a or log at b");
        // 0 good by b; 100 idle; a down (110 ..) leaves the way of b. Then {0, 100}, {0, 101}, {0, 102}: all idle;
        // 103 leaves the first word to b; {0, 120} leaves nothing.
        due("trial(100)", x.trial(100), 1);
        due("tried()", x.tried(), 6);
        due("known()", x.known(), 2);
        due("found(0)", x.found(0), 0);
        due("found(1)", x.found(1), 120);
        due("trial(5)", x.trial(5), 2);
        due("known()", x.known(), 2);
    }

    /** FORMULAS of RUNS with a word that comes late, and with a MACHINE that is away in between. */
    private static void trialWithLateWords() {
        FallTrials x = with("machine c; machine a; row put; row log kept; row go; row seen kept; row ok kept;"
            + "fact put at c; fact go at a; rule ok now if put at c; send log to a if put at c; rule seen next if go at a;"
            + "promise seen at a and ok at c gives log at a");
        x.purse(0, 0);
        x.purse(1, 0);
        x.purse(2, 1);
        x.purse(3, 1);
        // Run: 200 idle, 210 idle, 211 idle, 212 good (kept from 1), 213 idle, 300 good (late, in 3); {200, 300 ..
        // 303} idle, {201, 300} good, {202, 300} good, {203, 300} idle, {210, 300} idle, {211, 300} idle,
        // {212, 300} broken. {210, 301} and the like leave the late word of 300's FORMULA.
        due("trial(100)", x.trial(100), 1);
        due("tried()", x.tried(), 16);
        due("known()", x.known(), 5);
        due("found(0)", x.found(0), 212);
        due("found(1)", x.found(1), 300);
        due("trial(16)", x.trial(16), 1);
        due("trial(15)", x.trial(15), 2);
    }

    private static void exactRuns() {
        promise = 22;
        FallTrials x = with(Books.LOGS);
        // Broken: word 0 of tick 0 lost and b down from 0, 1, 2 or 3 on: 4; the other way round: 4.
        granted(x, "exact()", x.exact(), 8);
        due("exactly(0)", x.exactly(0), 0);
        due("exactly(1)", x.exactly(1), 120);
        due("exactly(2)", x.exactly(2), -1);
        due("exactly(-1)", x.exactly(-1), -1);
        x.purse(1, 0);
        granted(x, "exact()", x.exact(), 0);
        due("exactly(0)", x.exactly(0), -1);
        x.purse(0, 2);
        granted(x, "both words of tick 0", x.exact(), 1);
        due("exactly(1)", x.exactly(1), 10);
        // Runs without FALLS that aren't GOOD are no hindrance.
        x = with(Books.LOST_CAUSE);
        // x is kept at a: broken but when a is down at the end, as any of the 4 falls DOWN makes it.
        granted(x, "broken already", x.exact(), 0);
        x.purse(1, 0);
        x.purse(2, 1);
        // Away in 0 and 1: x never comes. Away in 1 or in 2, back in 4: broken. Away in 3: idle.
        granted(x, "away", x.exact(), 2);
        due("exactly(0)", x.exactly(0), 201);
        x = with("machine a;machine b;row x kept;fact x at b;" + "send x to a if x at b;".repeat(6)
            + "promise x at b gives x at a");
        x.last(6);
        x.purse(3, 1);
        // 36, 12 and 36 falls.
        refused(x, "more than 60 falls, a purse of 3", x.exact(), 5);
        due("count(10)", x.count(10), 37 * 13 * 37 - 1);
        x.purse(1, 0);
        granted(x, "72 falls, a purse of 2", x.exact(), 0);
        x.purse(3, 0);
        x.purse(1, 2);
        // a down at the end and b not: one of the 6 falls of a, alone, with one of the 36, with another
        // of the 6, and with one of the 36 besides.
        granted(x, "down", x.exact(), 6 + 15 + 6 * 36 + 15 * 36);
        // 72 falls, of which the last ones matter: the word of send 5 in tick 5, lost or late.
        x = with("machine a;machine b;row p;row q;row r;row s;row t;row u;row k kept;row z;fact p at a;fact k at a;"
            + "rule q next if p;rule r next if q;rule s next if r;rule t next if s;rule u next if t;"
            + "send p to b if p at a;".repeat(5) + "send z to b if u at a;promise k at a gives z at b");
        x.last(6);
        x.purse(1, 0);
        x.purse(3, 1);
        due("count(9)", x.count(9), 72);
        granted(x, "exact()", x.exact(), 2 + 36 + 36 - 1);
        due("exactly(0)", x.exactly(0), 55);
        due("exactly(1)", x.exactly(1), -1);
        x.purse(0, 0);
        granted(x, "exact()", x.exact(), 1);
        due("exactly(0)", x.exactly(0), 355);
    }

    private static void cutDown() {
        promise = 24;
        FallTrials x = with(Books.LOGS);
        refused(x, "cut() of a good run", x.cut(), 5);
        x.fall(0, 0, 0);
        x.fall(0, 1, 0);
        x.fall(1, 2, 1);
        x.fall(0, 1, 2);
        granted(x, "cut()", x.cut(), 2);
        // From the greatest down: 121 goes (10 is told too), 12 goes, 10 and 0 stay.
        due("told(0)", x.told(0), 0);
        due("told(1)", x.told(1), 10);
        due("told(2)", x.told(2), -1);
        granted(x, "cut() again", x.cut(), 2);
        // One between two that are needed.
        x.fall(0, 0, 1);
        granted(x, "cut() of 0, 1, 10", x.cut(), 2);
        due("told(1)", x.told(1), 10);
        x.fall(0, 0, 1);
        x.fall(0, 0, 2);
        x.fall(0, 1, 1);
        x.fall(3, 1, 0);
        granted(x, "cut() of six", x.cut(), 2);
        due("told(0)", x.told(0), 0);
        due("told(1)", x.told(1), 10);
        x.fall(1, 0, 3);
        refused(x, "cut() of an idle run", x.cut(), 5);
        due("count(6)", x.count(6), 3);
        x = with(Books.LOST_CAUSE);
        x.fall(2, 0, 1);
        granted(x, "broken without any", x.cut(), 0);
        granted(x, "none told", x.cut(), 0);
    }

    private static void toldFalls() {
        promise = 25;
        FallTrials x = with(Books.LOGS);
        x.fall(3, 1, 2);
        x.fall(1, 2, 3);
        x.fall(0, 1, 0);
        due("told(-1)", x.told(-1), -1);
        due("told(0)", x.told(0), 10);
        due("told(1)", x.told(1), 123);
        due("told(2)", x.told(2), 312);
        due("told(3)", x.told(3), -1);
    }

    private static void starts() {
        promise = 26;
        FallTrials x = with(Books.STARTS);
        due("count(12)", x.count(12), 3);
        refused(x, "start(-1)", x.start(-1), 2);
        refused(x, "start(4)", x.start(4), 2);
        due("y at a", x.there(1, 0, 0), 1);
        due("x at b", x.there(0, 1, 0), 1);
        due("start(1)", x.start(1), true);
        due("trouble()", x.trouble(), 0);
        due("count(12)", x.count(12), 1);
        due("y at a", x.there(1, 0, 0), 1);
        due("x at b", x.there(0, 1, 0), 0);
        due("start(2)", x.start(2), true);
        due("y at a", x.there(1, 0, 0), 0);
        due("x at b", x.there(0, 1, 0), 1);
        due("x at a is no fact maybe", x.there(0, 0, 0), 1);
        FallTrials none = with(Books.LOGS);
        due("start(0)", none.start(0), true);
        refused(none, "start(1)", none.start(1), 2);
    }

    private static void thinStarts() {
        promise = 27;
        FallTrials x = with(Books.STARTS);
        x.purse(1, 0);
        x.last(1);
        // Without y one lost word spoils it, with y it takes two.
        granted(x, "thin()", x.thin(), 0);
        due("thinness()", x.thinness(), 1);
        due("count(12): THE START stays", x.count(12), 3);
        x.last(2);
        x.purse(0, 2);
        granted(x, "thin()", x.thin(), 0);
        due("thinness()", x.thinness(), 2);
        x.last(3);
        refused(x, "three words, two falls", x.thin(), 6);
        due("thinness() of the latest that told one", x.thinness(), 2);
        x.purse(0, 0);
        refused(x, "an empty purse", x.thin(), 6);
        // Only a START that makes the RUN GOOD counts, and the thinner wins over the lesser.
        x = with("machine a; machine b; row x kept; row y kept; row w kept; row z kept; fact x at a; fact y at a maybe;"
            + "fact w at a maybe; send z to b if y at a; send z to b if w at a; send z to b if w at a;"
            + "promise x at a gives z at b");
        x.last(1);
        x.purse(1, 0);
        x.purse(0, 3);
        granted(x, "y alone", x.thin(), 1);
        due("thinness()", x.thinness(), 1);
        x = with("machine a; machine b; row x kept; row y kept; row w kept; row z kept; fact x at a; fact w at a maybe;"
            + "fact y at a maybe; send z to b if y at a; send z to b if w at a; send z to b if w at a;"
            + "promise x at a gives z at b");
        x.last(1);
        x.purse(1, 0);
        x.purse(0, 3);
        granted(x, "2 is thinner than 1", x.thin(), 2);
        due("thinness()", x.thinness(), 1);
        // Each START has its own FACTS: y holds z up at b, but not in START 0, whatever THE START is now.
        x = with("machine a; machine b; row x kept; row y kept; row z; fact x at a; fact x at b; fact y at b maybe;"
            + "send z to b if x at a; rule z now if y at b; promise x at a gives z at b");
        x.last(1);
        x.purse(1, 0);
        for (int bits = 0; bits < 2; bits++) {
            x.start(bits);
            granted(x, "thin()", x.thin(), 0);
        }
        x = with("machine a;machine b;row x kept;fact x at b;" + "send x to a if x at b;".repeat(6)
            + "promise x at b gives x at a");
        x.last(6);
        x.purse(3, 1);
        refused(x, "more than 60 falls, a purse of 3", x.thin(), 5);
        x = with(Books.LOST_CAUSE);
        refused(x, "never good", x.thin(), 6);
    }

    private static void chains() {
        promise = 29;
        FallTrials x = with(Books.RETRY);
        chainDue(x, 4102, 3102, 2102, 1000, 0);
        x.fall(0, 0, 0);
        // log comes in 2 by the word of 1 first, where put was kept from 0.
        chainDue(x, 4102, 3102, 2000, 1000, 0);
        x.fall(0, 0, 1);
        x.fall(0, 0, 2);
        x.fall(0, 0, 3);
        chainDue(x);
        // The second PLACE, if the first doesn't hold; a fact ends it, and so does a reason without rows.
        x = with(Books.LOGS);
        x.fall(0, 0, 0);
        chainDue(x, 4202, 3202, 2202, 1202, 0);
        x = with("machine a; row p; row q; fact p at a; rule q next if not q; promise p at a gives p at a or q at a");
        x.last(3);
        chainDue(x, 3001);
        // The least ROW of the CASES; one that the CHAIN has ends it.
        x = with("machine a; row p kept; row q; row r; row s; fact p at a; rule r now if s; rule s now if r;"
            + "rule s now if q and p; rule q now if p; promise p at a gives r at a");
        x.last(1);
        // r by rule 0 from s; s by rule 1 from r, which the CHAIN has.
        chainDue(x, 1002, 1003);
        x = with("machine a; row p kept; row q; row r; row s; fact p at a; rule r now if s;"
            + "rule s now if q and p; rule q now if p; promise p at a gives r at a");
        x.last(1);
        chainDue(x, 1002, 1003, 1000, 0);
    }

    private static void tellMends() {
        promise = 30;
        FallTrials x = with(Books.LOGS);
        refused(x, "mend(-1, 0)", x.mend(-1, 0), 1);
        refused(x, "mend(3, 0)", x.mend(3, 0), 1);
        refused(x, "mend(0, 3)", x.mend(0, 3), 1);
        refused(x, "mend(0, -1)", x.mend(0, -1), 1);
        refused(x, "mend(1, 2)", x.mend(1, 2), 1);
        refused(x, "mend(2, 2)", x.mend(2, 2), 1);
        granted(x, "mend(0, 2)", x.mend(0, 2), 0);
        granted(x, "mend(1, 0)", x.mend(1, 0), 1);
        granted(x, "mend(2, 0)", x.mend(2, 0), 2);
        refused(x, "mend(1, 0) again", x.mend(1, 0), 5);
        granted(x, "mend(1, 1)", x.mend(1, 1), 3);
        granted(x, "mend(2, 1)", x.mend(2, 1), 4);
        granted(x, "mend(0, 0)", x.mend(0, 0), 5);
        refused(x, "mend(0, 0) again", x.mend(0, 0), 5);
        refused(x, "a seventh", x.mend(0, 1), 3);
        due("count(7)", x.count(7), 6);
    }

    private static void keepSets() {
        promise = 31;
        FallTrials x = with(Books.LOGS);
        refused(x, "keep() of none", x.keep(), 5);
        x.fall(0, 0, 0);
        for (int i = 1; i <= 8; i++) granted(x, "keep()", x.keep(), i);
        refused(x, "a ninth", x.keep(), 3);
        due("count(8)", x.count(8), 8);
        x.clear();
        refused(x, "none told comes before no room", x.keep(), 5);
        // They are kept as they were told.
        x = with(Books.LOGS);
        x.fall(0, 0, 0);
        x.fall(0, 1, 0);
        x.keep();
        x.clear();
        due("fit(0)", x.fit(0), 0);
    }

    private static void fitMends() {
        promise = 32;
        FallTrials x = with(Books.LOGS);
        granted(x, "fit(0) without kept sets", x.fit(0), 1);
        refused(x, "fit(1)", x.fit(1), 2);
        refused(x, "fit(-1)", x.fit(-1), 2);
        x.fall(0, 0, 0);
        x.fall(1, 2, 3);
        x.keep();
        x.mend(1, 0);
        x.mend(0, 0);
        x.mend(2, 0);
        int[] fit = {0, 1, 1, 1, 0, 1, 1, 1};
        for (int bits = 0; bits < 8; bits++) granted(x, "fit(" + bits + ")", x.fit(bits), fit[bits]);
        refused(x, "fit(8)", x.fit(8), 2);
        due("run(): nothing is made by it", x.run(), 2);
        // All KEPT SETS count.
        x.clear();
        x.fall(0, 0, 0);
        x.fall(0, 0, 1);
        x.fall(1, 2, 3);
        x.keep();
        due("both words lost", x.fit(1), 0);
        due("put kept", x.fit(2), 1);
        // With MENDS the RUN without FALLS must be GOOD: q kept denies p.
        x = with("machine a; machine b; row p kept; row q; row r kept; fact p at a; fact q at a;"
            + "send r to b if p and not q at a; promise p at a gives r at b");
        x.mend(0, 1);
        x.mend(2, 0);
        x.fall(1, 0, 3);
        x.keep();
        due("fit(0)", x.fit(0), 1);
        due("fit(1)", x.fit(1), 0);
        due("fit(2)", x.fit(2), 1);
        due("fit(3)", x.fit(3), 1);
        // Idle with a KEPT SET is no break; idle without FALLS is unfit.
        x = with(Books.IDLE_BOOK);
        due("fit(0)", x.fit(0), 0);
    }

    private static void leastMends() {
        promise = 33;
        FallTrials x = with(Books.LOGS);
        granted(x, "least() without any", x.least(), 0);
        x.fall(0, 0, 0);
        x.fall(1, 2, 3);
        x.keep();
        refused(x, "no mends", x.least(), 6);
        x.mend(2, 0);
        refused(x, "no mend that helps", x.least(), 6);
        x.mend(0, 0);
        x.mend(1, 0);
        granted(x, "of 2 and 4", x.least(), 2);
        due("count(7): none is made", x.count(7), 3);
        // Two are needed: one for each way.
        x = with("machine c; machine a; row p; row q; row z kept; row k kept; fact p at c; fact q at c; fact k at c;"
            + "send z to a if p at c; send z to a if q at c; promise k at c gives z at a");
        x.mend(1, 0);
        x.mend(1, 1);
        x.mend(0, 0);
        x.fall(0, 0, 0);
        x.fall(0, 1, 0);
        x.keep();
        granted(x, "one", x.least(), 1);
        x.fall(0, 0, 1);
        x.keep();
        granted(x, "the second", x.least(), 2);
        x.fall(0, 1, 1);
        x.keep();
        granted(x, "the third", x.least(), 4);
        x.fall(0, 0, 2);
        x.fall(0, 0, 3);
        x.keep();
        refused(x, "none of all", x.least(), 6);
    }

    private static void makeMends() {
        promise = 34;
        FallTrials x = with(Books.LOGS);
        refused(x, "make(1)", x.make(1), 2);
        refused(x, "make(-1)", x.make(-1), 2);
        x.mend(1, 0);
        x.mend(0, 0);
        x.mend(2, 1);
        refused(x, "make(8)", x.make(8), 2);
        due("count(7)", x.count(7), 3);
        granted(x, "make(5)", x.make(5), 2);
        due("count(7)", x.count(7), 0);
        int[] log = {1, 1, 0, 0};
        for (int tick = 0; tick < 4; tick++) due("sent again, once", x.word(0, tick), log[tick]);
        due("the other isn't", x.word(1, 1), 0);
        granted(x, "it may be told again", x.mend(1, 0), 0);
        granted(x, "make(0)", x.make(0), 0);
        // Not by sending again, not when the MACHINE is DOWN in either TICK, not in LAST.
        x.fall(2, 0, 1);
        due("down now", x.word(0, 1), 0);
        due("down in the tick ahead", x.word(0, 3), 0);
        x.last(1);
        refused(x, "LAST", x.word(0, 1), 2);
        // Why it comes, what holds it up, the CHAIN: by the CASES of the TICK ahead.
        x.last(3);
        x.fall(0, 0, 0);
        reasonDue(x, 2, 1, 2, 1001);
        chainDue(x, 3102, 2102, 0);
        x.clear();
        due("stands", x.stands(2, 1, 3), 1);
        x.fall(0, 0, 0);
        due("stands by the second word", x.stands(2, 1, 2), 1);
        due("not by the first", x.stands(2, 1, 1), 0);
        x.fall(0, 0, 1);
        due("nor by either", x.stands(2, 1, 2), 0);
        x.clear();
        x.fall(0, 0, 0);
        x.fall(1, 0, 1);
        due("the sender down when it sends again", x.stands(2, 1, 2), 0);
        // FORM 0 and 2 made in the BOOK.
        x = with("machine a; machine b; row p; row q; row r; fact p at a; fact q at a;"
            + "send r to b if p and not q at a; promise p at a gives r at b");
        due("run()", x.run(), 1);
        x.mend(0, 0);
        x.mend(0, 1);
        x.mend(2, 0);
        due("make(3)", x.make(3), 2);
        due("p is kept now", x.run(), 2);
        x.mend(2, 0);
        due("make(1)", x.make(1), 1);
        due("the case behind not is left out", x.run(), 0);
        due("word(0, 3)", x.word(0, 3), 1);
        due("fit(0) goes by what is made", x.fit(0), 1);
        // Two of a FORM at once, and one behind the other.
        x = with(Books.LOGS);
        x.mend(1, 1);
        x.mend(1, 0);
        x.make(3);
        due("word(0, 1)", x.word(0, 1), 1);
        due("word(1, 1)", x.word(1, 1), 1);
        due("fit(0) goes by what is made", x.fit(0), 1);
        x = with("machine a; machine b; row p; row q; row r; fact p at a; fact q at a; send p to b if p and not q at a;"
            + "send q to b if p and not q at a; promise p at a gives r at b");
        x.mend(2, 1);
        x.make(1);
        x.mend(2, 0);
        x.make(1);
        due("word(0, 0)", x.word(0, 0), 1);
        due("word(1, 0)", x.word(1, 0), 1);
        // A RUN knows nothing of the one ahead of it: q holds in all TICKS but 0.
        x = with("machine a; machine b; row p kept; row q; row z; fact p at a; rule q next if p at a;"
            + "send z to b if q at a; promise p at a gives z at b");
        x.mend(1, 0);
        x.make(1);
        for (int i = 0; i < 3; i++) due("word(0, 0)", x.word(0, 0), 0);
        due("word(0, 1)", x.word(0, 1), 1);
        // Sent again in 1, or sent by its CASES then, if k is at a in 0: each by its own TICK.
        x = with("machine a; machine b; row p; row z; row k; fact p at a; fact k at a maybe; rule p next if k at a;"
            + "send z to b if p at a; promise z at b gives z at b");
        x.mend(1, 0);
        x.make(1);
        x.last(2);
        for (int i = 0; i < 3; i++) {
            due("start(0)", x.start(0), true);
            chainDue(x, 2101, 0);
            due("start(1)", x.start(1), true);
            chainDue(x, 2101, 1000, 2);
        }
        // p in 0, 2 and 4: sent again in 1 and in 3.
        x = with("machine a; machine b; row p; row z kept; fact p at a; rule p next if not p at a;"
            + "send z to b if p at a; promise p at a gives z at b");
        x.mend(1, 0);
        x.make(1);
        chainDue(x, 4101, 2000);
        x.fall(0, 0, 0);
        x.fall(0, 0, 2);
        x.fall(0, 0, 3);
        chainDue(x, 4101, 3101, 2101, 0);
    }

    private static void counts() {
        promise = 35;
        FallTrials x = with(Books.STARTS);
        x.fall(0, 0, 0);
        x.keep();
        x.keep();
        x.mend(0, 0);
        x.mend(1, 0);
        x.mend(2, 0);
        x.start(2);
        x.feed(0, 0, 0, 0, 0);
        int[] want = {2, 3, 3, 0, 2, 4, 1, 3, 2, 16, 9 * 9 - 1, 2, 2, 20};
        for (int what = 0; what < 14; what++) due("count(" + what + ")", x.count(what), want[what]);
        due("count(-1)", x.count(-1), -1);
        due("count(14)", x.count(14), -1);
        due("trouble()", x.trouble(), 0);
    }

    private static void troubles() {
        promise = 36;
        FallTrials x = with(Books.LOGS);
        x.last(9);
        due("trouble()", x.trouble(), 2);
        x.feed(0, 0, 0, 0, 0);
        x.fault();
        x.where();
        x.clear();
        x.tried();
        x.known();
        x.found(9);
        x.exactly(9);
        x.told(9);
        x.thinness();
        x.count(99);
        reasonOr(x, 9, 9, 9, 9);
        ledOr(x, 99);
        due("trouble() of calls that tell no number", x.trouble(), 2);
        due("trouble() again", x.trouble(), 2);
        x.there(0, 0, 0);
        due("trouble()", x.trouble(), 0);
    }
}
