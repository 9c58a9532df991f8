import java.util.ArrayList;
import java.util.Arrays;
import java.util.Collections;
import java.util.HashMap;
import java.util.HashSet;
import java.util.LinkedHashMap;
import java.util.List;
import java.util.Map;
import java.util.NoSuchElementException;
import java.util.Set;
import java.util.TreeSet;

/**
 * The document told a second time, as plainly as the Java library allows and without a
 * thought for speed: one run at a time, reasons as lists, formulas by going round till
 * nothing changes, all sets of the purse written out. OracleTest sets it beside FallTrials.
 */
final class Oracle {
    static final Set<String> RESERVED = Set.of("machine", "row", "fact", "rule", "send", "promise",
        "not", "and", "or", "at", "if");

    record Case(int row, boolean not) {}
    record Rule(int row, boolean now, List<Case> cases, int at) {}
    record Send(int row, int to, int from, List<Case> cases) {}
    record Fact(int row, int machine, boolean maybe) {}
    record Place(int row, int machine) {}
    record Fall(int kind, int which, int tick) {
        int number() { return 100 * kind + 10 * which + tick; }
    }
    record Mend(int form, int which) {}
    record Spot(int row, int machine, int tick) {}
    record Reason(int code, List<Spot> needs, int send, int sendTick) {}

    static final class Text {
        final List<String> machines = new ArrayList<>();
        final List<String> rows = new ArrayList<>();
        final Set<Integer> kept = new HashSet<>();
        final List<Fact> facts = new ArrayList<>();
        final List<Rule> rules = new ArrayList<>();
        final List<Send> sends = new ArrayList<>();
        final List<Place> pre = new ArrayList<>();
        final List<Place> post = new ArrayList<>();
        int fault;
        int place;

        int maybes() {
            int n = 0;
            for (Fact f : facts) if (f.maybe()) n++;
            return n;
        }
    }

    // ------------------------------------------------------------------ reading

    /** A table of states: what may stand next, and what comes of it. */
    static Text read(byte[] bytes) {
        Text text = new Text();
        String state = "line";
        int place = 0;
        int row = -1;
        int machine = -1;
        int to = -1;
        boolean now = false;
        boolean not = false;
        List<Case> cases = new ArrayList<>();
        String sort = "";
        while (true) {
            while (place < bytes.length && bytes[place] == ' ') place++;
            String token = "";
            int end = place;
            if (place == bytes.length) {
                token = "END";
            } else if (bytes[place] == ';') {
                token = ";";
                end++;
            } else {
                StringBuilder b = new StringBuilder();
                while (end < bytes.length && bytes[end] >= 'a' && bytes[end] <= 'z') b.append((char) bytes[end++]);
                token = b.length() == 0 || b.length() > 8 ? "BAD" : b.toString();
            }
            boolean name = !token.isEmpty() && Character.isLowerCase(token.charAt(0)) && !RESERVED.contains(token);
            int asMachine = text.machines.indexOf(token);
            int asRow = text.rows.indexOf(token);
            int fault = 0;
            switch (state) {
                case "line" -> {
                    sort = token;
                    cases = new ArrayList<>();
                    not = false;
                    switch (token) {
                        case "machine" -> { fault = text.machines.size() == 4 ? 5 : 0; state = "new machine"; }
                        case "row" -> { fault = text.rows.size() == 10 ? 5 : 0; state = "new row"; }
                        case "fact" -> { fault = text.facts.size() == 10 ? 5 : 0; state = "first row"; }
                        case "rule" -> { fault = text.rules.size() == 10 ? 5 : 0; state = "first row"; }
                        case "send" -> { fault = text.sends.size() == 6 ? 5 : 0; state = "first row"; }
                        case "promise" -> state = "place row";
                        default -> fault = 1;
                    }
                }
                case "new machine", "new row" -> {
                    if (!name) fault = 1;
                    else if (asMachine >= 0 || asRow >= 0) fault = 3;
                    else if (state.equals("new machine")) { text.machines.add(token); state = ";"; }
                    else { text.rows.add(token); state = "kept"; }
                }
                case "kept" -> {
                    if (token.equals("kept")) { text.kept.add(text.rows.size() - 1); state = ";"; }
                    else if (token.equals(";")) state = "line";
                    else fault = 1;
                }
                case ";" -> { if (token.equals(";")) state = "line"; else fault = 1; }
                case "first row" -> {
                    if (!name) fault = 1;
                    else if (asRow < 0) fault = 2;
                    else { row = asRow; state = sort.equals("fact") ? "fact at" : sort.equals("rule") ? "when" : "to"; }
                }
                case "fact at" -> { if (token.equals("at")) state = "fact machine"; else fault = 1; }
                case "fact machine" -> {
                    if (!name) fault = 1;
                    else if (asMachine < 0) fault = 2;
                    else { machine = asMachine; state = "maybe"; }
                }
                case "maybe" -> {
                    if (token.equals("maybe")) { text.facts.add(new Fact(row, machine, true)); state = ";"; }
                    else if (token.equals(";")) { text.facts.add(new Fact(row, machine, false)); state = "line"; }
                    else fault = 1;
                }
                case "when" -> {
                    if (!token.equals("now") && !token.equals("next")) fault = 1;
                    now = token.equals("now");
                    state = "if";
                }
                case "to" -> { if (token.equals("to")) state = "to machine"; else fault = 1; }
                case "to machine" -> {
                    if (!name) fault = 1;
                    else if (asMachine < 0) fault = 2;
                    else { to = asMachine; state = "if"; }
                }
                case "if" -> { if (token.equals("if")) state = "case"; else fault = 1; }
                case "case", "denied case" -> {
                    boolean fourth = cases.size() == 3 && state.equals("case");
                    boolean mayNot = state.equals("case") && (sort.equals("send") || !now);
                    if (mayNot && token.equals("not")) { fault = fourth ? 5 : 0; not = true; state = "denied case"; }
                    else if (!name) fault = 1;
                    else if (asRow < 0) fault = 2;
                    else if (fourth) fault = 5;
                    else { cases.add(new Case(asRow, not)); not = false; state = "behind case"; }
                }
                case "behind case" -> {
                    if (token.equals("and")) state = "case";
                    else if (token.equals("at")) state = "case machine";
                    else if (token.equals(";") && sort.equals("rule")) { text.rules.add(new Rule(row, now, cases, -1)); state = "line"; }
                    else fault = 1;
                }
                case "case machine" -> {
                    if (!name) fault = 1;
                    else if (asMachine < 0) fault = 2;
                    else if (sort.equals("send") && asMachine == to) fault = 3;
                    else {
                        if (sort.equals("send")) text.sends.add(new Send(row, to, asMachine, cases));
                        else text.rules.add(new Rule(row, now, cases, asMachine));
                        state = ";";
                    }
                }
                case "place row", "post row" -> {
                    int had = state.equals("place row") ? text.pre.size() : text.post.size();
                    if (!name) fault = 1;
                    else if (asRow < 0) fault = 2;
                    else if (had == 3) fault = 5;
                    else { row = asRow; state = state.equals("place row") ? "place at" : "post at"; }
                }
                case "place at", "post at" -> {
                    if (token.equals("at")) state = state.equals("place at") ? "place machine" : "post machine";
                    else fault = 1;
                }
                case "place machine", "post machine" -> {
                    if (!name) fault = 1;
                    else if (asMachine < 0) fault = 2;
                    else if (state.equals("place machine")) { text.pre.add(new Place(row, asMachine)); state = "behind place"; }
                    else { text.post.add(new Place(row, asMachine)); state = "behind post"; }
                }
                case "behind place" -> {
                    if (token.equals("and")) state = "place row";
                    else if (token.equals("gives")) state = "post row";
                    else fault = 1;
                }
                case "behind post" -> {
                    if (token.equals("or")) state = "post row";
                    else if (token.equals("END")) return text;
                    else fault = 1;
                }
                default -> throw new IllegalStateException(state);
            }
            if (fault != 0) {
                text.fault = fault;
                text.place = place;
                return text;
            }
            place = end;
        }
    }

    // ------------------------------------------------------------------ runs

    static final class Run {
        final boolean[][][] there = new boolean[7][4][10];
        final int[][] words = new int[6][6];
        final boolean[][] again = new boolean[6][6];
        int verdict;
    }

    private byte[] tape = new byte[0];
    private Text text;
    private int last;
    private final int[] purse = new int[4];
    private int start;
    private final List<Fall> falls = new ArrayList<>();
    private final List<Mend> mends = new ArrayList<>();
    private final Set<Mend> made = new HashSet<>();
    private final List<List<Fall>> keptSets = new ArrayList<>();
    private int trouble;
    private int fault;
    private int where;
    private int tried = -1;
    private int known = -1;
    private int thinness = -1;
    private List<Fall> found = List.of();
    private List<Fall> exactly = List.of();

    private static boolean down(List<Fall> by, int machine, int tick) {
        for (Fall f : by) {
            if (f.which() != machine) continue;
            if (f.kind() == 1 && tick >= f.tick()) return true;
            if (f.kind() == 2 && (tick == f.tick() || tick == f.tick() + 1)) return true;
        }
        return false;
    }

    private boolean isKept(Set<Mend> with, int row) {
        return text.kept.contains(row) || with.contains(new Mend(0, row));
    }

    private List<Case> casesOf(Set<Mend> with, int send) {
        List<Case> all = text.sends.get(send).cases();
        if (!with.contains(new Mend(2, send))) return all;
        List<Case> some = new ArrayList<>();
        for (Case c : all) if (!c.not()) some.add(c);
        return some;
    }

    private boolean hold(Run r, List<Fall> by, List<Case> cases, int machine, int tick) {
        if (down(by, machine, tick)) return false;
        for (Case c : cases) if (r.there[tick][machine][c.row()] == c.not()) return false;
        return true;
    }

    private static List<Spot> spots(List<Case> cases, int machine, int tick) {
        TreeSet<Integer> rows = new TreeSet<>();
        for (Case c : cases) if (!c.not()) rows.add(c.row());
        List<Spot> out = new ArrayList<>();
        for (int row : rows) out.add(new Spot(row, machine, tick));
        return out;
    }

    private int keptFrom(List<Fall> by, int machine, int tick) {
        int t = tick - 1;
        while (t >= 0 && down(by, machine, t)) t--;
        return t;
    }

    private List<Reason> reasonsIn(Run r, List<Fall> by, int begun, Set<Mend> with, int row, int machine, int tick) {
        List<Reason> out = new ArrayList<>();
        if (down(by, machine, tick)) return out;
        int bit = 0;
        boolean fact = false;
        for (Fact f : text.facts) {
            boolean here = f.row() == row && f.machine() == machine;
            if (f.maybe()) {
                here &= (begun >> bit & 1) == 1;
                bit++;
            }
            fact |= here;
        }
        if (fact && tick == 0) out.add(new Reason(0, List.of(), -1, -1));
        for (int s = 0; s < text.sends.size(); s++) {
            Send send = text.sends.get(s);
            if (send.row() != row || send.to() != machine) continue;
            for (int u = 0; u < tick && u < last; u++) {
                if (r.words[s][u] == 1 && u + 1 == tick || r.words[s][u] == 3 && u + 3 == tick) {
                    int ct = r.again[s][u] ? u - 1 : u;
                    out.add(new Reason(1000 + 10 * s + u, spots(send.cases(), send.from(), ct), s, u));
                }
            }
        }
        int k = keptFrom(by, machine, tick);
        if (isKept(with, row) && k >= 0 && r.there[k][machine][row]) {
            out.add(new Reason(2000 + k, List.of(new Spot(row, machine, k)), -1, -1));
        }
        for (int i = 0; i < text.rules.size(); i++) {
            Rule rule = text.rules.get(i);
            if (rule.now() || rule.row() != row || rule.at() >= 0 && rule.at() != machine || tick == 0) continue;
            if (hold(r, by, rule.cases(), machine, tick - 1)) {
                out.add(new Reason(3000 + i, spots(rule.cases(), machine, tick - 1), -1, -1));
            }
        }
        for (int i = 0; i < text.rules.size(); i++) {
            Rule rule = text.rules.get(i);
            if (!rule.now() || rule.row() != row || rule.at() >= 0 && rule.at() != machine) continue;
            if (hold(r, by, rule.cases(), machine, tick)) {
                out.add(new Reason(4000 + i, spots(rule.cases(), machine, tick), -1, -1));
            }
        }
        return out;
    }

    private Run runOf(List<Fall> by, int begun, Set<Mend> with) {
        Run r = new Run();
        for (int t = 0; t <= last; t++) {
            boolean more = true;
            while (more) {
                more = false;
                for (int m = 0; m < text.machines.size(); m++) {
                    for (int row = 0; row < text.rows.size(); row++) {
                        if (!r.there[t][m][row] && !reasonsIn(r, by, begun, with, row, m, t).isEmpty()) {
                            r.there[t][m][row] = true;
                            more = true;
                        }
                    }
                }
            }
            for (int s = 0; s < text.sends.size() && t < last; s++) {
                Send send = text.sends.get(s);
                List<Case> cases = casesOf(with, s);
                boolean sends = hold(r, by, cases, send.from(), t);
                if (!sends && with.contains(new Mend(1, s)) && t > 0 && !down(by, send.from(), t)
                    && hold(r, by, cases, send.from(), t - 1)) {
                    sends = true;
                    r.again[s][t] = true;
                }
                boolean late = by.contains(new Fall(3, s, t));
                int comes = late ? t + 3 : t + 1;
                if (!sends) r.words[s][t] = 0;
                else if (by.contains(new Fall(0, s, t))) r.words[s][t] = 2;
                else if (comes > last || down(by, send.to(), comes)) r.words[s][t] = 4;
                else r.words[s][t] = late ? 3 : 1;
            }
        }
        boolean pre = true;
        boolean post = false;
        for (Place p : text.pre) pre &= r.there[last][p.machine()][p.row()];
        for (Place p : text.post) post |= r.there[last][p.machine()][p.row()];
        r.verdict = !pre ? 1 : post ? 0 : 2;
        return r;
    }

    private Run runOf(List<Fall> by) {
        return runOf(by, start, made);
    }

    // ------------------------------------------------------------------ formulas

    /** The formula of a run: each spot that is there with its reasons. */
    private Map<Spot, List<Reason>> formulaOf(Run r, List<Fall> by, int begun) {
        Map<Spot, List<Reason>> formula = new LinkedHashMap<>();
        for (int t = 0; t <= last; t++) {
            for (int m = 0; m < text.machines.size(); m++) {
                for (int row = 0; row < text.rows.size(); row++) {
                    if (r.there[t][m][row]) {
                        formula.put(new Spot(row, m, t), reasonsIn(r, by, begun, made, row, m, t));
                    }
                }
            }
        }
        return formula;
    }

    private Set<Spot> standing(Map<Spot, List<Reason>> formula, List<Fall> put) {
        Set<Spot> stand = new HashSet<>();
        boolean more = true;
        while (more) {
            more = false;
            for (Map.Entry<Spot, List<Reason>> e : formula.entrySet()) {
                Spot spot = e.getKey();
                if (stand.contains(spot) || down(put, spot.machine(), spot.tick())) continue;
                for (Reason reason : e.getValue()) {
                    if (reasonStands(reason, spot, stand, put)) {
                        stand.add(spot);
                        more = true;
                        break;
                    }
                }
            }
        }
        return stand;
    }

    private boolean reasonStands(Reason reason, Spot spot, Set<Spot> stand, List<Fall> put) {
        if (!stand.containsAll(reason.needs())) return false;
        switch (reason.code() / 1000) {
            case 1:
                int s = reason.send();
                int u = reason.sendTick();
                return !put.contains(new Fall(0, s, u)) && !put.contains(new Fall(3, s, u))
                    && !down(put, text.sends.get(s).from(), u);
            case 3:
                return !down(put, spot.machine(), spot.tick() - 1);
            default:
                return true;
        }
    }

    private boolean spoiled(Map<Spot, List<Reason>> formula, List<Fall> put) {
        Set<Spot> stand = standing(formula, put);
        for (Place p : text.post) if (stand.contains(new Spot(p.row(), p.machine(), last))) return false;
        return true;
    }

    private List<Fall> allFalls() {
        List<Fall> all = new ArrayList<>();
        if (text == null) return all;
        for (int kind = 0; kind < 4; kind++) {
            int n = kind == 0 || kind == 3 ? text.sends.size() : text.machines.size();
            for (int w = 0; w < n && purse[kind] > 0; w++) {
                for (int t = 0; t < last; t++) all.add(new Fall(kind, w, t));
            }
        }
        return all;
    }

    private int inPurse() {
        return purse[0] + purse[1] + purse[2] + purse[3];
    }

    private List<List<Fall>> sets() {
        List<Fall> all = allFalls();
        List<List<Fall>> out = new ArrayList<>();
        for (int many = 1; many <= inPurse(); many++) choose(all, 0, many, new ArrayList<>(), out);
        return out;
    }

    private void choose(List<Fall> all, int from, int many, List<Fall> sofar, List<List<Fall>> out) {
        if (sofar.size() == many) {
            int[] of = new int[4];
            for (Fall f : sofar) if (++of[f.kind()] > purse[f.kind()]) return;
            out.add(new ArrayList<>(sofar));
            return;
        }
        for (int i = from; i < all.size(); i++) {
            sofar.add(all.get(i));
            choose(all, i + 1, many, sofar, out);
            sofar.remove(sofar.size() - 1);
        }
    }

    private boolean tooMuch() {
        return allFalls().size() > 60 && inPurse() == 3;
    }

    // ------------------------------------------------------------------ the face

    private int refuse(int number) {
        trouble = number;
        return -1;
    }

    private int ok(int answer) {
        trouble = 0;
        return answer;
    }

    int feed(int a, int b, int c, int d, int e) {
        if (tape.length + 20 > 700) return -1;
        int old = tape.length;
        tape = Arrays.copyOf(tape, old + 20);
        int[] numbers = {a, b, c, d, e};
        for (int i = 0; i < 20; i++) tape[old + i] = (byte) (numbers[i / 4] >>> 24 - 8 * (i % 4));
        return tape.length;
    }

    int book(int n) {
        if (n < 0 || n > tape.length) return refuse(2);
        Text told = read(Arrays.copyOf(tape, n));
        tape = new byte[0];
        fault = told.fault;
        if (fault != 0) {
            where = told.place;
            return refuse(4);
        }
        text = told;
        last = 4;
        purse[0] = 1;
        purse[1] = 1;
        purse[2] = 0;
        purse[3] = 0;
        start = (1 << told.maybes()) - 1;
        falls.clear();
        mends.clear();
        made.clear();
        keptSets.clear();
        tried = -1;
        known = -1;
        thinness = -1;
        found = List.of();
        exactly = List.of();
        return ok(told.rules.size() + told.sends.size());
    }

    int fault() { return fault; }

    int where() { return trouble == 4 ? where : -1; }

    boolean last(int ticks) {
        if (text == null) return refuse(1) == 0;
        if (ticks < 1 || ticks > 6) return refuse(2) == 0;
        last = ticks;
        falls.clear();
        keptSets.clear();
        return ok(0) == 0;
    }

    boolean purse(int kind, int n) {
        if (text == null || kind < 0 || kind > 3) return refuse(1) == 0;
        if (n < 0 || n > 3 || inPurse() - purse[kind] + n > 3) return refuse(2) == 0;
        purse[kind] = n;
        return ok(0) == 0;
    }

    int fall(int kind, int which, int tick) {
        if (text == null || kind < 0 || kind > 3) return refuse(1);
        int n = kind == 0 || kind == 3 ? text.sends.size() : text.machines.size();
        if (which < 0 || which >= n) return refuse(1);
        if (tick < 0 || tick >= last) return refuse(2);
        Fall f = new Fall(kind, which, tick);
        if (falls.contains(f)) return refuse(5);
        if (falls.size() == 6) return refuse(3);
        falls.add(f);
        Collections.sort(falls, (x, y) -> x.number() - y.number());
        return ok(falls.size());
    }

    int clear() {
        int n = falls.size();
        falls.clear();
        return n;
    }

    int run() {
        if (text == null) return refuse(1);
        return ok(runOf(falls).verdict);
    }

    private int wrong(int row, int machine, int tick) {
        if (text == null || row < 0 || row >= text.rows.size()) return 1;
        if (machine < 0 || machine >= text.machines.size()) return 1;
        return tick < 0 || tick > last ? 2 : 0;
    }

    int there(int row, int machine, int tick) {
        int w = wrong(row, machine, tick);
        if (w != 0) return refuse(w);
        return ok(runOf(falls).there[tick][machine][row] ? 1 : 0);
    }

    int reasons(int row, int machine, int tick) {
        int w = wrong(row, machine, tick);
        if (w != 0) return refuse(w);
        return ok(reasonsIn(runOf(falls), falls, start, made, row, machine, tick).size());
    }

    int reason(int row, int machine, int tick, int i) {
        if (wrong(row, machine, tick) != 0) throw new NoSuchElementException();
        List<Reason> list = reasonsIn(runOf(falls), falls, start, made, row, machine, tick);
        if (i < 0 || i >= list.size()) throw new NoSuchElementException();
        return list.get(i).code();
    }

    int word(int send, int tick) {
        if (text == null || send < 0 || send >= text.sends.size()) return refuse(1);
        if (tick < 0 || tick >= last) return refuse(2);
        return ok(runOf(falls).words[send][tick]);
    }

    int differs(int what) {
        if (text == null || what < 0 || what > 3) return refuse(1);
        Run a = runOf(falls);
        Run b = runOf(List.of());
        for (int t = 0; t <= last; t++) {
            for (int m = 0; m < text.machines.size(); m++) {
                for (int row = 0; row < text.rows.size(); row++) {
                    if (a.there[t][m][row] != b.there[t][m][row]) {
                        return ok(new int[] {t, m, row, a.there[t][m][row] ? 1 : 0}[what]);
                    }
                }
            }
        }
        return ok(-2);
    }

    int spoils() {
        if (text == null) return refuse(1);
        Run r = runOf(List.of());
        if (r.verdict == 2) return refuse(5);
        return ok(spoiled(formulaOf(r, List.of(), start), falls) ? 1 : 0);
    }

    int stands(int row, int machine, int tick) {
        int w = wrong(row, machine, tick);
        if (w != 0) return refuse(w);
        Run r = runOf(List.of());
        if (!r.there[tick][machine][row]) return refuse(5);
        return ok(standing(formulaOf(r, List.of(), start), falls).contains(new Spot(row, machine, tick)) ? 1 : 0);
    }

    int trial(int runs) {
        if (text == null) return refuse(1);
        if (runs < 1 || runs > 100) return refuse(2);
        Run first = runOf(List.of());
        if (first.verdict != 0 || tooMuch()) return refuse(5);
        List<Map<Spot, List<Reason>>> formulas = new ArrayList<>();
        formulas.add(formulaOf(first, List.of(), start));
        tried = 0;
        found = List.of();
        int answer = 0;
        for (List<Fall> set : sets()) {
            boolean all = true;
            for (Map<Spot, List<Reason>> f : formulas) all = all && spoiled(f, set);
            if (!all) continue;
            if (tried == runs) {
                answer = 2;
                break;
            }
            tried++;
            Run r = runOf(set);
            if (r.verdict == 2) {
                found = set;
                answer = 1;
                break;
            }
            if (r.verdict == 0) formulas.add(formulaOf(r, set, start));
        }
        known = formulas.size();
        return ok(answer);
    }

    int tried() { return tried; }

    int known() { return known; }

    int found(int i) { return i >= 0 && i < found.size() ? found.get(i).number() : -1; }

    int exact() {
        if (text == null) return refuse(1);
        if (tooMuch()) return refuse(5);
        int n = 0;
        exactly = List.of();
        for (List<Fall> set : sets()) {
            if (runOf(set).verdict == 2) {
                if (n == 0) exactly = set;
                n++;
            }
        }
        return ok(n);
    }

    int exactly(int i) { return i >= 0 && i < exactly.size() ? exactly.get(i).number() : -1; }

    int cut() {
        if (text == null) return refuse(1);
        if (runOf(falls).verdict != 2) return refuse(5);
        for (Fall f : reversed(falls)) {
            List<Fall> less = new ArrayList<>(falls);
            less.remove(f);
            if (runOf(less).verdict == 2) falls.remove(f);
        }
        return ok(falls.size());
    }

    private static List<Fall> reversed(List<Fall> of) {
        List<Fall> out = new ArrayList<>(of);
        Collections.reverse(out);
        return out;
    }

    int told(int i) { return i >= 0 && i < falls.size() ? falls.get(i).number() : -1; }

    boolean start(int bits) {
        if (text == null) return refuse(1) == 0;
        if (bits < 0 || bits >> text.maybes() != 0) return refuse(2) == 0;
        start = bits;
        return ok(0) == 0;
    }

    int thin() {
        if (text == null) return refuse(1);
        if (tooMuch()) return refuse(5);
        int best = -1;
        int size = 0;
        List<List<Fall>> sets = sets();
        for (int bits = 0; bits < 1 << text.maybes(); bits++) {
            Run r = runOf(List.of(), bits, made);
            if (r.verdict != 0) continue;
            Map<Spot, List<Reason>> formula = formulaOf(r, List.of(), bits);
            for (List<Fall> set : sets) {
                if (spoiled(formula, set)) {
                    if (best < 0 || set.size() < size) {
                        best = bits;
                        size = set.size();
                    }
                    break;
                }
            }
        }
        if (best < 0) return refuse(6);
        thinness = size;
        return ok(best);
    }

    int thinness() { return thinness; }

    int led(int i) {
        if (text == null) throw new NoSuchElementException();
        Run r = runOf(falls);
        List<Spot> chain = new ArrayList<>();
        Spot at = null;
        for (Place p : text.post) {
            if (at == null && r.there[last][p.machine()][p.row()]) at = new Spot(p.row(), p.machine(), last);
        }
        while (at != null && !chain.contains(at)) {
            chain.add(at);
            Reason why = reasonsIn(r, falls, start, made, at.row(), at.machine(), at.tick()).get(0);
            at = why.needs().isEmpty() ? null : why.needs().get(0);
        }
        if (i < 0 || i >= chain.size()) throw new NoSuchElementException();
        Spot s = chain.get(i);
        return 1000 * s.tick() + 100 * s.machine() + s.row();
    }

    int mend(int form, int which) {
        if (text == null || form < 0 || form > 2) return refuse(1);
        if (which < 0 || which >= (form == 0 ? text.rows.size() : text.sends.size())) return refuse(1);
        Mend m = new Mend(form, which);
        if (mends.contains(m)) return refuse(5);
        if (mends.size() == 6) return refuse(3);
        mends.add(m);
        return ok(mends.size() - 1);
    }

    int keep() {
        if (text == null) return refuse(1);
        if (falls.isEmpty()) return refuse(5);
        if (keptSets.size() == 8) return refuse(3);
        keptSets.add(new ArrayList<>(falls));
        return ok(keptSets.size());
    }

    private Set<Mend> madeWith(int bits) {
        Set<Mend> with = new HashSet<>(made);
        for (int i = 0; i < mends.size(); i++) if ((bits >> i & 1) == 1) with.add(mends.get(i));
        return with;
    }

    private boolean isFit(int bits) {
        Set<Mend> with = madeWith(bits);
        if (runOf(List.of(), start, with).verdict != 0) return false;
        for (List<Fall> set : keptSets) if (runOf(set, start, with).verdict == 2) return false;
        return true;
    }

    int fit(int bits) {
        if (text == null) return refuse(1);
        if (bits < 0 || bits >> mends.size() != 0) return refuse(2);
        return ok(isFit(bits) ? 1 : 0);
    }

    int least() {
        if (text == null) return refuse(1);
        int best = -1;
        for (int bits = 0; bits < 1 << mends.size(); bits++) {
            if ((best < 0 || Integer.bitCount(bits) < Integer.bitCount(best)) && isFit(bits)) best = bits;
        }
        return best < 0 ? refuse(6) : ok(best);
    }

    int make(int bits) {
        if (text == null) return refuse(1);
        if (bits < 0 || bits >> mends.size() != 0) return refuse(2);
        made.addAll(new ArrayList<>(madeWith(bits)));
        mends.clear();
        return ok(Integer.bitCount(bits));
    }

    int count(int what) {
        if (what < 0 || what > 13) return -1;
        if (what == 13) return tape.length;
        if (text == null) return 0;
        Map<Integer, Integer> of = new HashMap<>();
        of.put(0, text.machines.size());
        of.put(1, text.rows.size());
        of.put(2, text.facts.size());
        of.put(3, text.rules.size());
        of.put(4, text.sends.size());
        of.put(5, last);
        of.put(6, falls.size());
        of.put(7, mends.size());
        of.put(8, keptSets.size());
        of.put(9, allFalls().size());
        of.put(11, text.maybes());
        of.put(12, start);
        return what == 10 ? sets().size() : of.get(what);
    }

    int trouble() { return trouble; }
}
