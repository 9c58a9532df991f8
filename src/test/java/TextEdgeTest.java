/** Sentences that name an edge: the text of a book (I), promises 1 to 5. */
public final class TextEdgeTest extends Edges {
    private static final String HEAD = "machine a;machine b;row x;row y;";
    private static final String END = "promise x at a gives y at b";

    public static void main(String[] args) {
        TextEdgeTest test = new TextEdgeTest();
        test.tokens();
        test.lines();
        test.names();
        test.rooms();
        test.faults();
        test.newObject();
        test.tape();
        test.books();
        test.faultAndWhere();
        test.end("I", "1", "2", "3", "4", "5");
    }

    private void fine(String text) {
        FallTrials x = new FallTrials();
        int answer = Feeder.tell(x, text);
        due("book of '" + text + "'", answer >= 0, true);
        due("fault() of '" + text + "'", x.fault(), 0);
        due("trouble() of '" + text + "'", x.trouble(), 0);
    }

    /** The sign ^ marks the place of the fault and isn't part of the text. */
    private void faulty(int fault, String marked) {
        int place = marked.indexOf('^');
        String text = marked.substring(0, place) + marked.substring(place + 1);
        FallTrials x = new FallTrials();
        refused(x, "book of '" + text + "'", Feeder.tell(x, text), 4);
        due("fault() of '" + text + "'", x.fault(), fault);
        due("where() of '" + text + "'", x.where(), place);
    }

    private static String many(String line, int times) {
        return line.repeat(times);
    }

    private static String rows(int many) {
        StringBuilder b = new StringBuilder();
        for (int i = 0; i < many; i++) b.append("row ").append((char) ('p' + i)).append(';');
        return b.toString();
    }

    // ------------------------------------------------------------------ tokens

    private void tokens() {
        sentence("I", "THE TAPE has 700 bytes", this::tapeOf700);
        sentence("I", "blanks, 32, part TOKENS and mean nothing else", this::blanks);
        sentence("I", "WORDS of 1 to 8 small letters that stand together", this::wordsOf1To8);
        sentence("I", "the sign ;", this::sign);
    }

    private void tapeOf700() {
        String text = "machine a;row x;promise x at a gives x at a";
        FallTrials x = new FallTrials();
        due("700 bytes", Feeder.feed(x, " ".repeat(700 - text.length()) + text), 700);
        due("20 more", x.feed(0, 0, 0, 0, 0), -1);
        due("a book that ends with byte 700", x.book(700), 0);
        x = new FallTrials();
        Feeder.feed(x, " ".repeat(700 - text.length()) + text);
        due("less the last byte: no machine behind at", x.book(699), -1);
        due("fault()", x.fault(), 1);
        due("where()", x.where(), 699);
    }

    private void blanks() {
        fine("machine a;row x;promise x at a gives x at a");
        fine("   machine    a  ;  row   x kept ;  promise  x   at  a  gives  x  at  a   ");
        faulty(1, "^ma chine a;");
        for (int b : new int[] {0, 9, 10, 13, 31, 33, 127, 128, 160, 255}) {
            faulty(1, "machine^" + (char) b + "a;row x;promise x at a gives x at a");
            faulty(1, "^" + (char) b + "machine a;row x;promise x at a gives x at a");
            faulty(1, "machine a;row x;promise x at a gives x at a^" + (char) b);
        }
    }

    private void wordsOf1To8() {
        fine("machine z;row a;promise a at z gives a at z");
        fine("machine zzzzzzzz;row zzzzzzzy;row zzzzzzz;row z;promise z at zzzzzzzz gives zzzzzzzy at zzzzzzzz");
        faulty(3, "machine zzzzzzzz;row ^zzzzzzzz;");
        faulty(1, "machine ^abcdefghi;");
        faulty(1, "machine ^abcdefghijklmnopqrstuvwxyz;");
        faulty(1, "^machinexx a;");
        faulty(2, "machine abcdefgh;row x;fact x at ^abcdefg;");
        for (int b : new int[] {'@', 'A', 'Z', '[', '_', '`', '{', '0', '9'}) {
            faulty(1, "machine ^" + (char) b + ";");
            faulty(1, "machine a^" + (char) b + ";");
            faulty(1, "machine abcdefgh^" + (char) b + ";");
        }
    }

    private void sign() {
        fine("machine a ; row x; promise x at a gives x at a");
        for (char c : new char[] {':', '<', ',', '.'}) faulty(1, "machine a^" + c + "row x;");
    }

    // ------------------------------------------------------------------ lines

    private void lines() {
        sentence("I", "BOOK: {LINE ;} PROMISE.", this::bookForm);
        sentence("I", "machine NAME, or row NAME, behind it perhaps kept", this::machineOrRow);
        sentence("I", "fact NAME at NAME (a ROW, a MACHINE), behind it perhaps maybe", this::factForm);
        sentence("I", "rule NAME now if NAME {and NAME} [at NAME]", this::ruleNowForm);
        sentence("I", "rule NAME next if CASE {and CASE} [at NAME]", this::ruleNextForm);
        sentence("I", "(ROWS; a MACHINE: there alone)", this::ruleThereAlone);
        sentence("I", "send NAME to NAME if CASE {and CASE} at NAME", this::sendForm);
        sentence("I", "the MACHINE that sends, another one", this::sendToAnother);
        sentence("I", "CASE: NAME, or not NAME (a ROW)", this::caseForm);
        sentence("I", "promise PLACE {and PLACE} gives PLACE {or PLACE}", this::promiseForm);
        sentence("I", "PLACE: NAME at NAME (a ROW, a MACHINE)", this::placeForm);
    }

    private void bookForm() {
        faulty(1, "^");
        faulty(1, "^;");
        faulty(1, "promise^");
        faulty(2, "promise ^x at a gives x at a");
        faulty(1, "machine a;^;row x;");
        faulty(1, "machine a ^row x;");
        faulty(1, HEAD + END + "^;");
        faulty(1, HEAD + END + " ^promise x at a gives x at a");
        faulty(1, HEAD + END + " ^row z;");
        faulty(1, HEAD + "^");
        fine(HEAD + END);
    }

    private void machineOrRow() {
        fine("machine a;row x kept;promise x at a gives x at a");
        faulty(1, "machine a ^kept;");
        faulty(1, "machine a;row x kept ^kept;");
        faulty(1, "machine a;row x ^maybe;");
        faulty(1, "machine^;");
        faulty(1, "row^;");
        FallTrials x = with("machine a;row x kept;row y;fact x at a;fact y at a;promise x at a gives x at a");
        due("kept", x.there(0, 0, 1), 1);
        due("not kept", x.there(1, 0, 1), 0);
    }

    private void factForm() {
        fine(HEAD + "fact x at a;" + END);
        fine(HEAD + "fact x at a maybe;" + END);
        faulty(1, HEAD + "fact x at a maybe ^maybe;");
        faulty(1, HEAD + "fact x at a ^kept;");
        faulty(1, HEAD + "fact x ^a;");
        faulty(1, HEAD + "fact x at^;");
        faulty(1, HEAD + "fact^;");
        faulty(1, HEAD + "fact ^not x at a;");
    }

    private void ruleNowForm() {
        fine(HEAD + "rule x now if y;" + END);
        fine(HEAD + "rule x now if y and x and y at a;" + END);
        faulty(1, HEAD + "rule x now if ^not y;");
        faulty(1, HEAD + "rule x now if y and ^not x;");
        faulty(1, HEAD + "rule x now ^y;");
        faulty(1, HEAD + "rule x ^if y;");
        faulty(1, HEAD + "rule x now if^;");
        faulty(1, HEAD + "rule x now if y and^;");
        faulty(1, HEAD + "rule x now if y at^;");
        faulty(1, HEAD + "rule x now if y at a ^at a;");
        faulty(1, HEAD + "rule x now if y at a ^and x;");
        faulty(1, HEAD + "rule x now if y ^or x;");
    }

    private void ruleNextForm() {
        fine(HEAD + "rule x next if not y;" + END);
        fine(HEAD + "rule x next if y and not x and not y at b;" + END);
        faulty(1, HEAD + "rule x next ^y;");
        faulty(1, HEAD + "rule x ^maybe if y;");
        faulty(1, HEAD + "rule x next if^;");
        faulty(1, HEAD + "rule x next if y and^;");
        faulty(1, HEAD + "rule x next if ^and y;");
        faulty(1, HEAD + "rule x next if y at b ^at b;");
    }

    private void ruleThereAlone() {
        FallTrials x = with("machine a;machine b;row x;row y;row z;fact x at a;fact x at b;rule y now if x at b;"
            + "rule z next if x;promise x at a gives x at b");
        due("at b alone", x.there(1, 0, 0), 0);
        due("at b alone", x.there(1, 1, 0), 1);
        due("everywhere", x.there(2, 0, 1), 1);
        due("everywhere", x.there(2, 1, 1), 1);
    }

    private void sendForm() {
        fine(HEAD + "send x to a if y at b;" + END);
        fine(HEAD + "send x to a if not y and x and not x at b;" + END);
        faulty(1, HEAD + "send x to a if y^;");
        faulty(1, HEAD + "send x ^at a if y at b;");
        faulty(1, HEAD + "send x ^a if y at b;");
        faulty(1, HEAD + "send x to a ^at b;");
        faulty(1, HEAD + "send x to a if^;");
        faulty(1, HEAD + "send x to a if y at^;");
        faulty(1, HEAD + "send x to a if y at b ^and x;");
        faulty(1, HEAD + "send x to a if y at b ^at a;");
        faulty(1, HEAD + "send x to a if y at b ^maybe;");
    }

    private void sendToAnother() {
        faulty(3, HEAD + "send x to a if y at ^a;");
        faulty(3, HEAD + "send x to b if y and not x at ^b ;");
        fine(HEAD + "send x to b if y at a;" + END);
    }

    private void caseForm() {
        faulty(1, HEAD + "rule x next if not ^not y;");
        faulty(1, HEAD + "rule x next if not^;");
        faulty(1, HEAD + "send x to a if not ^at b;");
        faulty(2, HEAD + "send x to a if not ^b at b;");
        fine(HEAD + "send x to a if not x at b;" + END);
    }

    private void promiseForm() {
        fine(HEAD + "promise x at a and y at b gives x at a or y at b");
        faulty(1, HEAD + "promise^");
        faulty(2, HEAD + "promise ^gives x at a");
        faulty(1, HEAD + "promise x at a^");
        faulty(1, HEAD + "promise x at a ^or x at b gives x at a");
        faulty(1, HEAD + "promise x at a gives^");
        faulty(1, HEAD + "promise x at a gives x at a ^and x at b");
        faulty(1, HEAD + "promise x at a gives x at a ^gives x at b");
        faulty(1, HEAD + "promise x at a and^");
        faulty(1, HEAD + "promise x at a gives x at a or^");
    }

    private void placeForm() {
        faulty(1, HEAD + "promise x ^gives y at b");
        faulty(1, HEAD + "promise ^not x at a gives y at b");
        faulty(1, HEAD + "promise x at a gives ^not y at b");
        faulty(1, HEAD + "promise x at a gives y^");
        faulty(1, HEAD + "promise x at a gives y at^");
        faulty(1, HEAD + "promise x at ^at gives y at b");
    }

    // ------------------------------------------------------------------ names

    private void names() {
        sentence("I", "NAMES are WORDS but machine, row, fact, rule, send, promise, not, and, or, at, if", this::wordsThatAreNoNames);
        sentence("I", "each told once (MACHINES and ROWS together)", this::toldOnce);
        sentence("I", "ahead of its use", this::aheadOfUse);
    }

    private void wordsThatAreNoNames() {
        for (String word : "machine row fact rule send promise not and or at if".split(" ")) {
            faulty(1, "machine ^" + word + ";");
            faulty(1, "row ^" + word + ";");
            faulty(1, HEAD + "fact ^" + word + " at a;");
            faulty(1, HEAD + "send x to ^" + word + " if x at b;");
            fine("machine " + word + "s;row x;promise x at " + word + "s gives x at " + word + "s");
        }
        for (String word : "kept maybe now next to gives".split(" ")) {
            fine(("machine W;machine b;row x;fact x at W;fact x at W maybe;rule x now if x at W;send x to W if x at b;"
                + "send x to b if x at W;promise x at W and x at W gives x at W or x at W").replace("W", word));
            fine(("machine a;machine b;row W;row x kept;fact W at a maybe;rule W now if W and W at a;"
                + "rule W next if not W and W;send W to a if W and not W at b;promise W at a gives W at b").replace("W", word));
            fine("machine a;row " + word + " kept;promise " + word + " at a gives " + word + " at a");
        }
    }

    private void toldOnce() {
        faulty(3, "machine a;machine ^a;");
        faulty(3, "row a;row ^a;");
        faulty(3, "machine a;row ^a;");
        faulty(3, "row a;machine ^a;");
        faulty(3, "machine a;machine b;row p;row q;row r;row ^b kept;");
        fine("machine a;machine aa;row aaa;row aaaa;promise aaa at a gives aaaa at aa");
    }

    private void aheadOfUse() {
        faulty(2, "machine a;fact ^x at a;row x;promise x at a gives x at a");
        faulty(2, "row x;fact x at ^a;machine a;promise x at a gives x at a");
        faulty(2, "row x;rule x now if ^y;row y;machine a;promise x at a gives x at a");
        fine("row x;machine a;fact x at a;row y;rule y now if x;machine b;send y to b if y at a;promise x at a gives y at b");
    }

    // ------------------------------------------------------------------ rooms

    private void rooms() {
        sentence("I", "Up to 4 MACHINES", this::fourMachines);
        sentence("I", "10 ROWS", this::tenRows);
        sentence("I", "10 FACTS", this::tenFacts);
        sentence("I", "10 RULES", this::tenRules);
        sentence("I", "6 SENDS", this::sixSends);
        sentence("I", "3 CASES each", this::threeCases);
        sentence("I", "3 PLACES ahead of gives, 3 behind it", this::threePlaces);
    }

    private void fourMachines() {
        String four = "machine a;machine b;machine c;machine d;";
        FallTrials x = with(four + "row x;promise x at d gives x at d");
        due("count(0)", x.count(0), 4);
        faulty(5, four + "^machine e;row x;promise x at e gives x at e");
    }

    private void tenRows() {
        FallTrials x = with("machine a;" + rows(10) + "promise y at a gives p at a");
        due("count(1)", x.count(1), 10);
        due("the tenth", x.there(9, 0, 0), 0);
        faulty(5, "machine a;" + rows(10) + " ^row z kept;promise y at a gives p at a");
    }

    private void tenFacts() {
        FallTrials x = with(HEAD + many("fact x at a;", 10) + END);
        due("count(2)", x.count(2), 10);
        x = with(HEAD + many("fact x at a maybe;", 10) + END);
        due("count(2)", x.count(2), 10);
        due("count(11)", x.count(11), 10);
        due("count(12)", x.count(12), 1023);
        faulty(5, HEAD + many("fact x at a;", 10) + "^fact x at a;");
        faulty(5, HEAD + many("fact x at a maybe;", 5) + many("fact x at a;", 5) + "^fact x at a maybe;");
    }

    private void tenRules() {
        FallTrials x = with(HEAD + many("rule x now if y;", 10) + END);
        due("count(3)", x.count(3), 10);
        faulty(5, HEAD + many("rule x now if y;", 10) + "^rule x now if y;");
        faulty(5, HEAD + many("rule x now if y;", 5) + many("rule x next if y;", 5) + "^rule x next if y;");
    }

    private void sixSends() {
        FallTrials x = with(HEAD + many("send x to a if y at b;", 6) + END);
        due("count(4)", x.count(4), 6);
        faulty(5, HEAD + many("send x to a if y at b;", 6) + "^send x to a if y at b;");
    }

    private void threeCases() {
        fine(HEAD + "rule x now if x and y and x;rule x next if x and not y and x;send x to a if not x and y and not y at b;" + END);
        faulty(5, HEAD + "rule x now if x and y and x and ^y;");
        faulty(5, HEAD + "rule x next if x and y and x and ^y;");
        faulty(5, HEAD + "send x to a if x and y and x and ^y at b;");
        faulty(5, HEAD + "send x to a if x and y and x and ^not y at b;");
    }

    private void threePlaces() {
        fine(HEAD + "promise x at a and y at a and x at b gives x at a or y at a or x at b");
        faulty(5, HEAD + "promise x at a and y at a and x at b and ^y at b gives x at a");
        faulty(5, HEAD + "promise x at a gives x at a or y at a or x at b or ^y at b");
    }

    // ------------------------------------------------------------------ faults

    private void faults() {
        sentence("I", "FAULTS, the first that is met from the left", this::firstFromTheLeft);
        sentence("I", "of one place the least number", this::leastNumber);
        sentence("I", "1 FORM: the first byte that begins no TOKEN", this::noToken);
        sentence("I", "or TOKEN with which no BOOK goes on", this::noBookGoesOn);
        sentence("I", "(the end: its place)", this::theEnd);
        sentence("I", "2 a NAME that isn't told, or names the other sort; at it.", this::wrongNames);
        sentence("I", "3 a NAME told again", this::namesToldAgain);
        sentence("I", "a SEND's MACHINE that sends if it is the one it comes to; at it.", this::sendsToItself);
        sentence("I", "5 MANY: a LINE more of its sort than there is room for, at its first WORD", this::lineTooMany);
        sentence("I", "a fourth CASE (PLACE), at its first TOKEN.", this::fourthCase);
    }

    private void firstFromTheLeft() {
        faulty(3, "machine a;machine ^a;fact q at a;!");
        faulty(2, "machine a;fact ^q at q;machine a;!");
        faulty(1, "machine ^!;machine a;machine a;");
        faulty(5, HEAD + "rule x now if x and x and x and ^x and q;machine a;");
        faulty(2, "machine a;machine b;machine c;machine d;fact ^q at a;machine e;");
    }

    private void leastNumber() {
        faulty(1, HEAD + "rule x next if x and x and x and ^and;");
        faulty(1, HEAD + "rule x now if x and x and x and ^not y;");
        faulty(1, HEAD + "rule x next if x and x and x and^");
        faulty(2, HEAD + "rule x next if x and x and x and ^q;");
        faulty(2, HEAD + "rule x next if x and x and x and ^a;");
        faulty(1, HEAD + "promise x at a and x at a and x at a and ^gives x at a".replace("gives", "if"));
        faulty(2, HEAD + "promise x at a and x at a and x at a and ^b at x");
        faulty(2, HEAD + "promise x at a gives x at a or x at a or x at a or ^q at a");
        faulty(2, HEAD + "send x to a if y at ^x;");
    }

    private void noToken() {
        for (int b = 0; b < 256; b++) {
            boolean begins = b == ' ' || b == ';' || b >= 'a' && b <= 'z';
            if (!begins) faulty(1, HEAD + "fact x at a^" + (char) b + ";" + END);
        }
    }

    private void noBookGoesOn() {
        for (String word : "now next kept maybe not and or at if to gives x a ;".split(" ")) {
            faulty(1, "^" + word);
            faulty(1, HEAD + "^" + word + " x");
        }
        for (String word : "machine row fact rule send promise".split(" ")) {
            faulty(1, HEAD + "fact x ^" + word);
            faulty(1, HEAD + "rule x now if y ^" + word);
            faulty(1, HEAD + "promise x at a ^" + word);
        }
    }

    /** A text cut off behind any token but its last is at its end where no BOOK ends. */
    private void theEnd() {
        String text = "machine a ; machine b ; row x kept ; row y ; fact x at a maybe ; rule x now if y and x at a ;"
            + " rule y next if not x and y ; send x to a if y and not y at b ; promise x at a and y at b gives x at a";
        fine(text);
        for (int n = 0; n < text.length(); n++) {
            boolean between = text.charAt(n) == ' ';
            if (between) {
                faulty(1, text.substring(0, n) + "^");
                faulty(1, text.substring(0, n) + "   ^");
            }
        }
        FallTrials x = new FallTrials();
        Feeder.feed(x, text);
        x.book(9);
        due("what is behind the first n bytes is no part of it", x.where(), 9);
    }

    private void wrongNames() {
        for (String wrong : "q a b".split(" ")) {
            faulty(2, HEAD + "fact ^" + wrong + " at a;");
            faulty(2, HEAD + "rule ^" + wrong + " now if x;");
            faulty(2, HEAD + "rule x now if ^" + wrong + ";");
            faulty(2, HEAD + "rule x now if y and ^" + wrong + ";");
            faulty(2, HEAD + "rule x next if ^" + wrong + ";");
            faulty(2, HEAD + "rule x next if not ^" + wrong + ";");
            faulty(2, HEAD + "send ^" + wrong + " to a if x at b;");
            faulty(2, HEAD + "send x to a if ^" + wrong + " at b;");
            faulty(2, HEAD + "send x to a if not ^" + wrong + " at b;");
            faulty(2, HEAD + "promise ^" + wrong + " at a gives x at a");
            faulty(2, HEAD + "promise x at a and ^" + wrong + " at a gives x at a");
            faulty(2, HEAD + "promise x at a gives ^" + wrong + " at a");
            faulty(2, HEAD + "promise x at a gives x at a or ^" + wrong + " at a");
        }
        for (String wrong : "q x y".split(" ")) {
            faulty(2, HEAD + "fact x at ^" + wrong + ";");
            faulty(2, HEAD + "rule x now if y at ^" + wrong + ";");
            faulty(2, HEAD + "rule x next if y at ^" + wrong + ";");
            faulty(2, HEAD + "send x to ^" + wrong + " if x at b;");
            faulty(2, HEAD + "send x to a if x at ^" + wrong + ";");
            faulty(2, HEAD + "promise x at ^" + wrong + " gives x at a");
            faulty(2, HEAD + "promise x at a gives x at ^" + wrong);
        }
    }

    private void namesToldAgain() {
        faulty(3, "machine a;row x;machine ^x;");
        faulty(3, "machine a;row x;row ^a");
        faulty(3, "machine abcdefgh;machine b;machine   ^abcdefgh");
    }

    private void sendsToItself() {
        faulty(3, HEAD + "send x to a if y at ^a");
        faulty(3, HEAD + "send x to a if y at ^a maybe");
    }

    private void lineTooMany() {
        faulty(5, "machine a;machine b;machine c;machine d;   ^machine");
        faulty(5, rows(10) + "^row !");
        faulty(5, HEAD + many("fact x at a;", 10) + "^fact q at q;");
        faulty(5, HEAD + many("rule x now if y;", 10) + "^rule");
        faulty(5, HEAD + many("send x to a if y at b;", 6) + "^send");
        fine("machine a;machine b;machine c;machine d;" + rows(10) + many("fact p at a;", 10)
            + many("rule p now if p;", 10) + many("send p to a if p at b;", 6) + "promise p at a gives p at a");
    }

    private void fourthCase() {
        faulty(5, HEAD + "rule x next if x and x and x and   ^not !");
        faulty(5, HEAD + "rule x next if x and x and x and ^not q;");
        faulty(5, HEAD + "rule x next if not x and not x and not x and ^x;");
        faulty(5, HEAD + "promise x at a and x at a and x at a and ^x !");
        faulty(5, HEAD + "promise x at a gives x at a or x at a or x at a or ^x");
    }

    // ------------------------------------------------------------------ promises 1 to 5

    private void newObject() {
        sentence("1", "No BOOK.", this::noBook);
    }

    private void noBook() {
        FallTrials x = new FallTrials();
        due("trouble()", x.trouble(), 0);
        due("fault()", x.fault(), 0);
        due("where()", x.where(), -1);
        for (int what = 0; what <= 13; what++) due("count(" + what + ")", x.count(what), 0);
        refused(x, "run()", x.run(), 1);
        refused(x, "last(4)", x.last(4), 1);
        refused(x, "purse(0, 1)", x.purse(0, 1), 1);
        refused(x, "fall(1, 0, 0)", x.fall(1, 0, 0), 1);
        refused(x, "there(0, 0, 0)", x.there(0, 0, 0), 1);
        refused(x, "reasons(0, 0, 0)", x.reasons(0, 0, 0), 1);
        refused(x, "word(0, 0)", x.word(0, 0), 1);
        refused(x, "differs(0)", x.differs(0), 1);
        refused(x, "spoils()", x.spoils(), 1);
        refused(x, "stands(0, 0, 0)", x.stands(0, 0, 0), 1);
        refused(x, "trial(1)", x.trial(1), 1);
        refused(x, "exact()", x.exact(), 1);
        refused(x, "cut()", x.cut(), 1);
        refused(x, "start(0)", x.start(0), 1);
        refused(x, "thin()", x.thin(), 1);
        refused(x, "mend(0, 0)", x.mend(0, 0), 1);
        refused(x, "keep()", x.keep(), 1);
        refused(x, "fit(0)", x.fit(0), 1);
        refused(x, "least()", x.least(), 1);
        refused(x, "make(0)", x.make(0), 1);
    }

    private void tape() {
        sentence("2", "Twenty bytes come behind THE TAPE", this::behindTheTape);
        sentence("2", "of each number the highest first", this::highestFirst);
        sentence("2", "how many it has", this::howManyItHas);
        sentence("2", "NONE, and none comes, if there would be more than 700.", this::moreThan700);
    }

    private void behindTheTape() {
        FallTrials x = new FallTrials();
        Feeder.feed(x, "machine a;row xyz;  ");
        Feeder.feed(x, "promise xyz at a giv");
        Feeder.feed(x, "es xyz at a");
        due("what came in three parts", x.book(51), 0);
    }

    private void highestFirst() {
        FallTrials x = new FallTrials();
        // "row " "x;  " and so on: a lowest byte first would begin with a blank and "wor".
        x.feed(0x726f7720, 0x783b2020, 0x20202020, 0x20202020, 0x206d6163);
        x.feed(0x68696e65, 0x20612020, 0x20202020, 0x20202020, 0x2020203b);
        x.feed(0x70726f6d, 0x69736520, 0x78206174, 0x20612067, 0x69766573);
        x.feed(0x20782061, 0x74206120, -1, LEAST, MOST);
        due("book(68)", x.book(68), 0);
        // Of numbers below zero the highest byte is one of 128 to 255: no token.
        for (int number : new int[] {LEAST, -1, 0x80202020}) {
            x.feed(0x20202020, number, 0, 0, 0);
            due("book(20)", x.book(20), -1);
            due("where()", x.where(), 4);
        }
        // 0x2020207f: the lowest byte is the fourth.
        x.feed(0x2020207f, 0, 0, 0, 0);
        x.book(20);
        due("where()", x.where(), 3);
    }

    private void howManyItHas() {
        FallTrials x = new FallTrials();
        for (int i = 1; i <= 35; i++) due("feed", x.feed(0, 0, 0, 0, 0), 20 * i);
        x.book(0);
        due("behind a book()", x.feed(0, 0, 0, 0, 0), 20);
    }

    private void moreThan700() {
        FallTrials x = new FallTrials();
        for (int i = 1; i <= 35; i++) x.feed(0x20202020, 0x20202020, 0x20202020, 0x20202020, 0x20202020);
        for (int i = 0; i < 3; i++) {
            due("feed", x.feed(0x21212121, 0x21212121, 0x21212121, 0x21212121, 0x21212121), -1);
            due("count(13)", x.count(13), 700);
        }
        due("book(700)", x.book(700), -1);
        due("blanks alone, none of the others came", x.where(), 700);
        due("room again", x.feed(0, 0, 0, 0, 0), 20);
    }

    private void books() {
        sentence("3", "The first n bytes of THE TAPE", this::firstBytes);
        sentence("3", "(it is empty then)", this::emptyTape);
        sentence("3", "LAST 4", this::lastIsFour);
        sentence("3", "THE PURSE, THE START as at first", this::purseAndStart);
        sentence("3", "no FALLS, MENDS, KEPT SETS", this::nothingTold);
        sentence("3", "tried(), known(), found(), exactly(), thinness() as ahead of any", this::answersForgotten);
        sentence("3", "how many RULES and SENDS", this::rulesAndSends);
        sentence("3", "NONE: 2 (THE TAPE stays)", this::badLength);
        sentence("3", "4 (the BOOK stays)", this::theBookStays);
    }

    private void firstBytes() {
        FallTrials x = new FallTrials();
        String text = "machine a;row x;promise x at a gives x at a";
        Feeder.feed(x, text + " or x at a");
        granted(x, "the first of them", x.book(text.length()), 0);
        Feeder.feed(x, text);
        granted(x, "all of them", x.book(x.count(13)), 0);
        refused(x, "book(0), an empty tape", x.book(0), 4);
        due("fault()", x.fault(), 1);
        due("where()", x.where(), 0);
        Feeder.feed(x, text);
        refused(x, "book(0), a full one", x.book(0), 4);
        due("where()", x.where(), 0);
    }

    private void emptyTape() {
        FallTrials x = new FallTrials();
        String text = "machine a;row x;promise x at a gives x at a";
        Feeder.feed(x, text);
        x.book(text.length());
        due("count(13)", x.count(13), 0);
        refused(x, "nothing is left", x.book(1), 2);
        Feeder.feed(x, text);
        x.book(10);
        due("a FAULT empties it, too", x.count(13), 0);
    }

    private void lastIsFour() {
        for (int ticks = 1; ticks <= 6; ticks++) {
            FallTrials x = with(Books.LOGS);
            due("count(5)", x.count(5), 4);
            x.last(ticks);
            Feeder.tell(x, Books.LOGS);
            due("count(5)", x.count(5), 4);
        }
    }

    private void purseAndStart() {
        FallTrials x = with(Books.STARTS);
        purse(x, 0, 0, 0, 3);
        x.start(0);
        Feeder.tell(x, Books.STARTS);
        due("2 sends and 2 machines, 4 ticks", x.count(9), 16);
        due("one of each kind", x.count(10), 80);
        due("count(12)", x.count(12), 3);
        Feeder.tell(x, Books.LOGS);
        due("no facts maybe", x.count(12), 0);
    }

    private void nothingTold() {
        FallTrials x = with(Books.LOGS);
        x.fall(0, 0, 0);
        x.keep();
        x.mend(0, 0);
        Feeder.tell(x, Books.LOGS);
        for (int what = 6; what <= 8; what++) due("count(" + what + ")", x.count(what), 0);
        due("told(0)", x.told(0), -1);
        refused(x, "fit(1)", x.fit(1), 2);
        granted(x, "mend(0, 0)", x.mend(0, 0), 0);
        granted(x, "fall(0, 0, 0)", x.fall(0, 0, 0), 1);
        granted(x, "keep()", x.keep(), 1);
    }

    private void answersForgotten() {
        FallTrials x = with(Books.STARTS);
        x.last(1);
        due("trial(100)", x.trial(100) >= 0, true);
        due("exact()", x.exact() > 0, true);
        due("thin()", x.thin() >= 0, true);
        due("there is something to forget", x.tried() >= 0 && x.known() >= 0 && x.exactly(0) >= 0 && x.thinness() >= 0, true);
        Feeder.tell(x, Books.STARTS);
        due("tried()", x.tried(), -1);
        due("known()", x.known(), -1);
        due("found(0)", x.found(0), -1);
        due("exactly(0)", x.exactly(0), -1);
        due("thinness()", x.thinness(), -1);
    }

    private void rulesAndSends() {
        FallTrials x = new FallTrials();
        granted(x, "none", Feeder.tell(x, HEAD + END), 0);
        granted(x, "a rule", Feeder.tell(x, HEAD + "rule x now if y;" + END), 1);
        granted(x, "a send", Feeder.tell(x, HEAD + "send x to a if y at b;" + END), 1);
        granted(x, "all", Feeder.tell(x, HEAD + many("rule x now if y;", 10) + many("send x to a if y at b;", 6) + END), 16);
    }

    private void badLength() {
        FallTrials x = new FallTrials();
        String text = "machine a;row x;promise x at a gives x at a";
        Feeder.feed(x, text);
        for (int n : new int[] {LEAST, -1, 61, 700, 701, MOST}) {
            refused(x, "book(" + n + ")", x.book(n), 2);
            due("count(13)", x.count(13), 60);
        }
        granted(x, "it is there still", x.book(text.length()), 0);
    }

    private void theBookStays() {
        FallTrials x = new FallTrials();
        refused(x, "the first one", Feeder.tell(x, "machine a;machine a"), 4);
        refused(x, "no BOOK", x.run(), 1);
        for (int what = 0; what <= 13; what++) due("count(" + what + ")", x.count(what), 0);
        x = with(Books.STARTS);
        x.last(1);
        purse(x, 1, 0, 0, 0);
        x.trial(100);
        x.exact();
        x.thin();
        x.start(2);
        x.mend(1, 0);
        x.fall(0, 0, 0);
        x.keep();
        int[] before = all(x);
        refused(x, "a FAULT", Feeder.tell(x, "machine q;row r;row s;fact r at q maybe;rule r now if s;promise r at q gives r at p"), 4);
        due("fault()", x.fault(), 2);
        int[] behind = all(x);
        for (int i = 0; i < before.length; i++) due("answer " + i, behind[i], before[i]);
    }

    /** What a BOOK that stays goes on to answer. */
    private static int[] all(FallTrials x) {
        int[] answers = new int[24];
        for (int what = 0; what <= 13; what++) answers[what] = x.count(what);
        answers[14] = x.tried();
        answers[15] = x.known();
        answers[16] = x.found(0);
        answers[17] = x.exactly(0);
        answers[18] = x.thinness();
        answers[19] = x.told(0);
        int place = x.where();
        answers[20] = x.run();
        answers[21] = x.fit(1);
        answers[22] = x.there(0, 1, 0);
        answers[23] = place >= 0 ? 0 : x.trouble();
        return answers;
    }

    private void faultAndWhere() {
        sentence("4", "The FAULT of the latest book() not refused by 2", this::latestFault);
        sentence("4", "0 without one.", this::noFault);
        sentence("5", "Its place, if the latest call that may be refused was by 4", this::placeOfFault);
        sentence("5", "NONE else.", this::noPlace);
    }

    private void latestFault() {
        FallTrials x = new FallTrials();
        String[] texts = {"machine a;!", "fact x", "row a;row a", many("row x;rule x now if x and x and x and x", 1)};
        int[] faults = {1, 2, 3, 5};
        for (int i = 0; i < 4; i++) {
            Feeder.tell(x, texts[i]);
            due("fault()", x.fault(), faults[i]);
            x.book(-1);
            x.book(1);
            due("fault() behind a refusal by 2", x.fault(), faults[i]);
            x.run();
            due("fault() behind another call", x.fault(), faults[i]);
        }
    }

    private void noFault() {
        FallTrials x = new FallTrials();
        due("a new object", x.fault(), 0);
        x.book(-1);
        due("refused by 2 alone", x.fault(), 0);
        Feeder.tell(x, "machine a;!");
        Feeder.tell(x, Books.LOGS);
        due("a book without one", x.fault(), 0);
        x.book(-1);
        due("and behind a refusal by 2", x.fault(), 0);
    }

    private void placeOfFault() {
        FallTrials x = new FallTrials();
        Feeder.tell(x, "machine a;!");
        due("where()", x.where(), 10);
        x.feed(0, 0, 0, 0, 0);
        x.count(0);
        x.clear();
        x.told(0);
        x.trouble();
        x.fault();
        due("behind calls that are refused by no number", x.where(), 10);
        throwsNone("led(0)", () -> x.led(0));
        throwsNone("reason(0, 0, 0, 0)", () -> x.reason(0, 0, 0, 0));
        due("behind calls that throw", x.where(), 10);
        x.book(0);
        due("the least place", x.where(), 0);
        Feeder.feed(x, " ".repeat(700));
        x.book(700);
        due("the greatest", x.where(), 700);
    }

    private void noPlace() {
        FallTrials x = new FallTrials();
        due("a new object", x.where(), -1);
        Feeder.tell(x, "machine a;!");
        x.run();
        due("behind a refusal by 1", x.where(), -1);
        Feeder.tell(x, "machine a;!");
        x.book(-1);
        due("behind a refusal by 2", x.where(), -1);
        Feeder.tell(x, "machine a;!");
        Feeder.tell(x, Books.LOGS);
        due("behind a book without one", x.where(), -1);
        Feeder.tell(x, "machine a;!");
        x.run();
        due("behind a call that wasn't refused", x.where(), -1);
    }
}
