import java.util.ArrayList;
import java.util.List;
import java.util.NoSuchElementException;
import java.util.Random;

/** Runs of calls drawn from fixed seeds: FallTrials must answer each as Oracle does. */
public final class OracleTest {
    private final Random random;
    private final FallTrials house = new FallTrials();
    private final Oracle oracle = new Oracle();
    private final List<String> calls = new ArrayList<>();
    private boolean wrong;

    private OracleTest(long seed) {
        random = new Random(seed);
    }

    public static void main(String[] args) {
        int runs = args.length > 0 ? Integer.parseInt(args[0]) : 3000;
        long first = args.length > 1 ? Long.parseLong(args[1]) : 1;
        int bad = 0;
        for (long seed = first; seed < first + runs && bad < 5; seed++) {
            OracleTest test = new OracleTest(seed);
            test.drawRun();
            if (test.wrong) {
                bad++;
                System.out.println("seed " + seed + ":");
                for (String call : test.calls) System.out.println("  " + call);
            }
        }
        System.out.println(bad == 0 ? "OracleTest: " + runs + " runs are as due" : "OracleTest: " + bad + " runs are not as due");
        if (bad != 0) System.exit(1);
    }

    private int draw(int n) { return random.nextInt(n); }

    private boolean oneIn(int n) { return random.nextInt(n) == 0; }

    // ------------------------------------------------------------------ books

    private static final String[] ODD_WORDS = {"machine", "row", "fact", "rule", "send", "promise", "not", "and",
        "or", "at", "if", "kept", "maybe", "now", "next", "to", "gives", "zz", "abcdefgh", "abcdefghi", ";", "A", "9"};

    private String cases(int rows, boolean mayNot) {
        StringBuilder b = new StringBuilder();
        int n = 1 + draw(oneIn(3) ? 3 : 2);
        for (int i = 0; i < n; i++) {
            if (i > 0) b.append(" and ");
            if (mayNot && oneIn(3)) b.append("not ");
            b.append((char) ('p' + draw(rows)));
        }
        return b.toString();
    }

    private String places(int rows, int machines, String joint, int most) {
        StringBuilder b = new StringBuilder();
        int n = 1 + draw(most);
        for (int i = 0; i < n; i++) {
            if (i > 0) b.append(joint);
            b.append((char) ('p' + draw(rows))).append(" at ").append((char) ('a' + draw(machines)));
        }
        return b.toString();
    }

    private List<String> lines() {
        int machines = 1 + draw(4);
        int rows = 1 + draw(oneIn(4) ? 10 : 5);
        List<String> lines = new ArrayList<>();
        for (int i = 0; i < machines; i++) lines.add("machine " + (char) ('a' + i));
        for (int i = 0; i < rows; i++) lines.add("row " + (char) ('p' + i) + (oneIn(2) ? " kept" : ""));
        for (int i = draw(6); i >= 0; i--) {
            lines.add("fact " + (char) ('p' + draw(rows)) + " at " + (char) ('a' + draw(machines)) + (oneIn(3) ? " maybe" : ""));
        }
        for (int i = draw(6); i > 0; i--) {
            boolean now = oneIn(2);
            lines.add("rule " + (char) ('p' + draw(rows)) + (now ? " now if " : " next if ") + cases(rows, !now)
                + (oneIn(2) ? " at " + (char) ('a' + draw(machines)) : ""));
        }
        for (int i = draw(7); i > 0 && machines > 1; i--) {
            int to = draw(machines);
            int from = (to + 1 + draw(machines - 1)) % machines;
            lines.add("send " + (char) ('p' + draw(rows)) + " to " + (char) ('a' + to) + " if " + cases(rows, true)
                + " at " + (char) ('a' + from));
        }
        String promise = oneIn(4) ? "" : promiseKept(lines, rows, machines);
        if (promise.isEmpty()) {
            promise = "promise " + places(rows, machines, " and ", 2) + " gives " + places(rows, machines, " or ", 3);
        }
        lines.add(promise);
        return lines;
    }

    /** A promise that the run without falls keeps, so that trials have something to spoil; "" if no row is there. */
    private String promiseKept(List<String> lines, int rows, int machines) {
        Oracle look = new Oracle();
        String text = String.join(";", lines) + ";promise p at a gives p at a";
        for (int i = 0; i < text.length(); i += 20) {
            int[] n = new int[5];
            for (int k = 0; k < 20; k++) n[k / 4] = n[k / 4] << 8 | (i + k < text.length() ? text.charAt(i + k) : ' ');
            look.feed(n[0], n[1], n[2], n[3], n[4]);
        }
        if (look.book(Math.min(text.length(), look.count(13))) < 0) return "";
        List<String> there = new ArrayList<>();
        for (int row = 0; row < rows; row++) {
            for (int machine = 0; machine < machines; machine++) {
                if (look.there(row, machine, 4) == 1) there.add((char) ('p' + row) + " at " + (char) ('a' + machine));
            }
        }
        if (there.isEmpty()) return "";
        String ahead = there.get(draw(there.size()));
        if (oneIn(3)) ahead += " and " + there.get(draw(there.size()));
        String behind = there.get(draw(there.size()));
        for (int i = draw(3); i > 0; i--) {
            behind += " or " + (oneIn(3) ? there.get(draw(there.size())) : places(rows, machines, "", 1));
        }
        return "promise " + ahead + " gives " + behind;
    }

    private String spoiltText(String text) {
        List<String> tokens = new ArrayList<>(List.of(text.split(" ")));
        for (int i = 1 + draw(2); i > 0 && !tokens.isEmpty(); i--) {
            int at = draw(tokens.size());
            switch (draw(4)) {
                case 0 -> tokens.remove(at);
                case 1 -> tokens.add(at, ODD_WORDS[draw(ODD_WORDS.length)]);
                case 2 -> tokens.set(at, ODD_WORDS[draw(ODD_WORDS.length)]);
                default -> tokens.add(at, tokens.get(draw(tokens.size())));
            }
        }
        return String.join(" ", tokens);
    }

    private void tellBook() {
        List<String> lines = lines();
        String text = String.join(oneIn(2) ? " ; " : ";", lines);
        if (oneIn(4)) {
            int at = draw(lines.size());
            for (int i = draw(11); i > 0; i--) lines.add(at, lines.get(at));
            text = String.join(" ; ", lines);
        }
        if (oneIn(4)) text = spoiltText(String.join(" ; ", lines));
        if (oneIn(8)) text = text.substring(0, draw(text.length() + 1));
        if (text.length() > 700) text = text.substring(0, 700);
        byte[] bytes = new byte[(text.length() + 19) / 20 * 20];
        for (int i = 0; i < bytes.length; i++) bytes[i] = (byte) (i < text.length() ? text.charAt(i) : ' ');
        if (oneIn(10) && bytes.length > 0) bytes[draw(bytes.length)] = (byte) draw(256);
        calls.add("text: " + text);
        for (int i = 0; i < bytes.length; i += 20) {
            int[] n = new int[5];
            for (int k = 0; k < 20; k++) n[k / 4] = n[k / 4] << 8 | bytes[i + k] & 255;
            check("feed", house.feed(n[0], n[1], n[2], n[3], n[4]), oracle.feed(n[0], n[1], n[2], n[3], n[4]));
        }
        if (oneIn(20)) {
            int n = draw(2) == 0 ? -1 : bytes.length + 1 + draw(30);
            check("book " + n, house.book(n), oracle.book(n));
            checkState();
        }
        int n = oneIn(2) ? text.length() : bytes.length;
        check("book " + n, house.book(n), oracle.book(n));
        checkState();
    }

    // ------------------------------------------------------------------ calls

    private void check(String call, int got, int due) {
        calls.add(call + " = " + got + (got == due ? "" : ", due is " + due));
        wrong |= got != due;
    }

    private void check(String call, boolean got, boolean due) {
        check(call, got ? 1 : 0, due ? 1 : 0);
    }

    private void checkState() {
        check("trouble", house.trouble(), oracle.trouble());
        check("fault", house.fault(), oracle.fault());
        check("where", house.where(), oracle.where());
        check("tried", house.tried(), oracle.tried());
        check("known", house.known(), oracle.known());
        check("thinness", house.thinness(), oracle.thinness());
        for (int i = -1; i < 4; i++) {
            check("found " + i, house.found(i), oracle.found(i));
            check("exactly " + i, house.exactly(i), oracle.exactly(i));
        }
        for (int i = -1; i < 7; i++) check("told " + i, house.told(i), oracle.told(i));
        for (int i = -1; i < 15; i++) {
            if (i != 10) check("count " + i, house.count(i), oracle.count(i));
        }
    }

    private void checkReason(int row, int machine, int tick, int i) {
        int got = -7;
        int due = -7;
        try { got = house.reason(row, machine, tick, i); } catch (NoSuchElementException e) { got = -9; }
        try { due = oracle.reason(row, machine, tick, i); } catch (NoSuchElementException e) { due = -9; }
        check("reason " + row + " " + machine + " " + tick + " " + i, got, due);
    }

    private void checkLed(int i) {
        int got = -7;
        int due = -7;
        try { got = house.led(i); } catch (NoSuchElementException e) { got = -9; }
        try { due = oracle.led(i); } catch (NoSuchElementException e) { due = -9; }
        check("led " + i, got, due);
    }

    private void checkWholeRun() {
        check("run", house.run(), oracle.run());
        for (int what = -1; what < 5; what++) check("differs " + what, house.differs(what), oracle.differs(what));
        int machines = oracle.count(0);
        int rows = oracle.count(1);
        for (int tick = -1; tick <= oracle.count(5) + 1; tick++) {
            for (int send = -1; send <= oracle.count(4); send++) {
                check("word " + send + " " + tick, house.word(send, tick), oracle.word(send, tick));
            }
            int machine = draw(machines + 1);
            for (int row = 0; row <= rows; row++) {
                check("there " + row + " " + machine + " " + tick, house.there(row, machine, tick), oracle.there(row, machine, tick));
                check("stands " + row + " " + machine + " " + tick, house.stands(row, machine, tick), oracle.stands(row, machine, tick));
                check("trouble", house.trouble(), oracle.trouble());
            }
            for (int row = 0; row <= rows; row++) {
                int many = oracle.reasons(row, machine, tick);
                for (int i = -1; i <= many; i++) checkReason(row, machine, tick, i);
                check("reasons " + row + " " + machine + " " + tick, house.reasons(row, machine, tick), many);
            }
        }
        for (int i = -1; i < 9; i++) checkLed(i);
    }

    private void drawCall() {
        switch (draw(22)) {
            case 0, 1, 2, 3 -> {
                int kind = draw(4);
                int which = draw(oneIn(5) ? 8 : 3) - (oneIn(20) ? 1 : 0);
                int tick = draw(oneIn(5) ? 8 : 3) - (oneIn(20) ? 1 : 0);
                if (oneIn(20)) kind = draw(7) - 2;
                check("fall " + kind + " " + which + " " + tick, house.fall(kind, which, tick), oracle.fall(kind, which, tick));
            }
            case 4 -> { if (oneIn(2)) check("clear", house.clear(), oracle.clear()); }
            case 5 -> {
                int ticks = oneIn(6) ? draw(10) - 1 : 2 + draw(3);
                check("last " + ticks, house.last(ticks), oracle.last(ticks));
            }
            case 6, 7 -> {
                int kind = oneIn(10) ? draw(7) - 2 : draw(4);
                int n = oneIn(10) ? draw(7) - 2 : draw(3);
                if (oneIn(3)) check("purse " + (kind ^ 1) + " 0", house.purse(kind ^ 1, 0), oracle.purse(kind ^ 1, 0));
                check("purse " + kind + " " + n, house.purse(kind, n), oracle.purse(kind, n));
            }
            case 8, 9 -> checkWholeRun();
            case 10 -> check("spoils", house.spoils(), oracle.spoils());
            case 11, 12 -> {
                int runs = oneIn(4) ? 1 + draw(4) : oneIn(8) ? draw(200) - 50 : 100;
                if (small()) check("trial " + runs, house.trial(runs), oracle.trial(runs));
            }
            case 13 -> { if (small()) check("exact", house.exact(), oracle.exact()); }
            case 14 -> check("cut", house.cut(), oracle.cut());
            case 15 -> {
                int bits = oneIn(5) ? draw(2000) - 2 : draw(8);
                check("start " + bits, house.start(bits), oracle.start(bits));
            }
            case 16 -> { if (small()) check("thin", house.thin(), oracle.thin()); }
            case 17 -> {
                int form = oneIn(10) ? draw(6) - 2 : draw(3);
                int which = draw(oneIn(4) ? 12 : 4) - (oneIn(10) ? 1 : 0);
                check("mend " + form + " " + which, house.mend(form, which), oracle.mend(form, which));
            }
            case 18 -> check("keep", house.keep(), oracle.keep());
            case 19 -> {
                int bits = draw(oneIn(5) ? 80 : 8) - (oneIn(10) ? 1 : 0);
                check("fit " + bits, house.fit(bits), oracle.fit(bits));
            }
            case 20 -> check("least", house.least(), oracle.least());
            default -> {
                int bits = draw(8);
                if (oneIn(2)) check("make " + bits, house.make(bits), oracle.make(bits));
                else check("sets", house.count(10), oracle.count(10));
            }
        }
        checkState();
    }

    /** Keeps the slow oracle to purses that it can write out soon; what is refused is always asked. */
    private boolean small() {
        return house.count(10) < 700 || oracle.count(9) > 60;
    }

    private void drawMends() {
        int many = 1 + draw(4);
        for (int i = 0; i < many; i++) {
            int form = draw(3);
            int which = draw(4);
            check("mend " + form + " " + which, house.mend(form, which), oracle.mend(form, which));
        }
        int bits = (1 << oracle.count(7)) - 1 & draw(64);
        if (oneIn(2)) check("make " + bits, house.make(bits), oracle.make(bits));
    }

    private void drawRun() {
        if (oneIn(10)) {
            for (int i = 0; i < 20; i++) drawCall();
        }
        for (int books = 1 + draw(4); books > 0 && !wrong; books--) {
            tellBook();
            if (oneIn(2)) drawMends();
            for (int i = 8 + draw(12); i > 0 && !wrong; i--) drawCall();
        }
    }
}
