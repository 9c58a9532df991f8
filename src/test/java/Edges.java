import java.io.IOException;
import java.nio.file.Files;
import java.nio.file.Path;
import java.util.ArrayList;
import java.util.List;
import java.util.NoSuchElementException;
import java.util.Set;
import java.util.TreeSet;
import java.util.function.IntSupplier;

/**
 * What the tests of single sentences share. Each sentence of the document that names an edge is a test of
 * its own: it is told by its place there (I to V of the terms, a promise's number, "what it is", "constants") and
 * its words, runs on objects of its own, and fails alone.
 */
abstract class Edges {
    static final int LEAST = Integer.MIN_VALUE;
    static final int MOST = Integer.MAX_VALUE;
    private static final Path DOCUMENT = Path.of("../shared/DOC.md");
    /** The places beside the promises, in their order in the document, and with what words each begins. */
    private static final List<String> TERMS = List.of("what it is", "I", "II", "III", "IV", "V", "constants", "calls");
    private static final String[] MARKS = {"## What it is", "I. THE TEXT", "II. A RUN", "III. THE FORMULA", "IV. MENDS",
        "V. TROUBLE", "The constants:", "Ahead of the calls"};

    private final String document = documentText();
    private final Set<String> places = new TreeSet<>();
    private final List<String> faults = new ArrayList<>();
    private int sentences;
    private int failed;

    private static String documentText() {
        try {
            return Files.exists(DOCUMENT) ? Files.readString(DOCUMENT).replaceAll("\\s+", " ") : "";
        } catch (IOException e) {
            return "";
        }
    }

    /** The part of the document in which a place's sentences stand. */
    private String partOf(String place) {
        int term = TERMS.indexOf(place);
        String from = term >= 0 ? MARKS[term] : "## Promise " + place + ":";
        String to = term >= 0 ? MARKS[term + 1] : "## ";
        int begin = document.indexOf(from);
        int end = document.indexOf(to, begin + 3);
        return begin < 0 || end < 0 ? "" : document.substring(begin, end);
    }

    final void sentence(String place, String words, Runnable test) {
        sentences++;
        places.add(place);
        faults.clear();
        if (!document.isEmpty() && !partOf(place).contains(words)) faults.add("the document has no such words there");
        try {
            test.run();
        } catch (RuntimeException e) {
            faults.add("threw " + e);
        }
        if (!faults.isEmpty()) {
            failed++;
            System.out.println("FAIL " + place + " '" + words + "'");
            for (String fault : faults) System.out.println("     " + fault);
        }
    }

    /** Ends the program; a place of which no sentence was tested fails, too. */
    final void end(String... needed) {
        for (String place : needed) {
            if (!places.contains(place)) {
                failed++;
                System.out.println("FAIL no sentence of " + place);
            }
        }
        System.out.println(getClass().getSimpleName() + ": " + sentences + " sentences, " + failed + " do not hold");
        if (failed != 0) System.exit(1);
    }

    final void due(String what, int got, int want) {
        if (got != want) faults.add(what + " answered " + got + ", due is " + want);
    }

    final void due(String what, boolean got, boolean want) {
        due(what, got ? 1 : 0, want ? 1 : 0);
    }

    /** A call that is refused with a number. */
    final void refused(FallTrials x, String what, int got, int trouble) {
        due(what, got, FallTrials.NONE);
        due(what + ", trouble()", x.trouble(), trouble);
    }

    final void refused(FallTrials x, String what, boolean got, int trouble) {
        due(what, got, false);
        due(what + ", trouble()", x.trouble(), trouble);
    }

    final void granted(FallTrials x, String what, int got, int want) {
        due(what, got, want);
        due(what + ", trouble()", x.trouble(), 0);
    }

    final void granted(FallTrials x, String what, boolean got) {
        due(what, got, true);
        due(what + ", trouble()", x.trouble(), 0);
    }

    /** A call that throws NoSuchElementException, and no class below it. */
    final void throwsNone(String what, IntSupplier call) {
        try {
            faults.add(what + " answered " + call.getAsInt() + ", due is NoSuchElementException");
        } catch (NoSuchElementException e) {
            if (e.getClass() != NoSuchElementException.class) faults.add(what + " threw " + e);
        }
    }

    final FallTrials with(String text) {
        FallTrials x = new FallTrials();
        if (Feeder.tell(x, text) == FallTrials.NONE) faults.add("fault " + x.fault() + " at " + x.where() + " of " + text);
        return x;
    }

    /** A purse of so many of each kind, whatever it was. */
    final void purse(FallTrials x, int... of) {
        for (int kind = 0; kind < 4; kind++) x.purse(kind, 0);
        for (int kind = 0; kind < 4; kind++) due("purse(" + kind + ", " + of[kind] + ")", x.purse(kind, of[kind]), true);
    }

    /** In which ticks, from 0 to LAST, a row is there. */
    final void thereDue(FallTrials x, int row, int machine, int... want) {
        due("LAST", x.count(5), want.length - 1);
        for (int tick = 0; tick < want.length; tick++) {
            due("there(" + row + ", " + machine + ", " + tick + ")", x.there(row, machine, tick), want[tick]);
        }
    }

    final void wordsDue(FallTrials x, int send, int... want) {
        due("LAST", x.count(5), want.length);
        for (int tick = 0; tick < want.length; tick++) {
            due("word(" + send + ", " + tick + ")", x.word(send, tick), want[tick]);
        }
    }

    final void reasonsDue(FallTrials x, int row, int machine, int tick, int... want) {
        String place = "(" + row + ", " + machine + ", " + tick + ")";
        due("reasons" + place, x.reasons(row, machine, tick), want.length);
        for (int i = 0; i < want.length && i < x.reasons(row, machine, tick); i++) {
            due("reason" + place + " " + i, x.reason(row, machine, tick, i), want[i]);
        }
        throwsNone("reason" + place + " " + want.length, () -> x.reason(row, machine, tick, want.length));
    }

    final void chainDue(FallTrials x, int... want) {
        for (int i = 0; i < want.length; i++) due("led(" + i + ")", x.led(i), want[i]);
        throwsNone("led(" + want.length + ")", () -> x.led(want.length));
    }

    final void foundDue(FallTrials x, int... want) {
        for (int i = 0; i < want.length; i++) due("found(" + i + ")", x.found(i), want[i]);
        due("found(" + want.length + ")", x.found(want.length), -1);
    }

    final void exactlyDue(FallTrials x, int... want) {
        for (int i = 0; i < want.length; i++) due("exactly(" + i + ")", x.exactly(i), want[i]);
        due("exactly(" + want.length + ")", x.exactly(want.length), -1);
    }

    final void toldDue(FallTrials x, int... want) {
        due("count(6)", x.count(6), want.length);
        for (int i = 0; i < want.length; i++) due("told(" + i + ")", x.told(i), want[i]);
        due("told(" + want.length + ")", x.told(want.length), -1);
    }

    final void differsDue(FallTrials x, int... want) {
        for (int what = 0; what < 4; what++) granted(x, "differs(" + what + ")", x.differs(what), want[what]);
    }
}
