import java.util.ArrayList;
import java.util.Arrays;
import java.util.Collections;
import java.util.HashMap;
import java.util.HashSet;
import java.util.List;
import java.util.Map;
import java.util.NoSuchElementException;
import java.util.Set;
import java.util.TreeSet;

/** The document once more, slowly and with lists and sets, so that the class can be compared with it. */
final class PlainTwin {
    static final class Clause {
        final List<Integer> literals;
        final boolean learnt;
        final boolean gone;

        Clause(List<Integer> literals, boolean learnt, boolean gone) {
            this.literals = List.copyOf(literals);
            this.learnt = learnt;
            this.gone = gone;
        }
    }

    static final class Kept implements Cloneable {
        int v;
        List<Clause> clauses = new ArrayList<>();
        List<Integer> telling = new ArrayList<>();
        List<Integer> assumptions = new ArrayList<>();
        Map<Integer, Boolean> phase = new HashMap<>();
        Map<Integer, Integer> score = new HashMap<>();
        List<List<Integer>> log = new ArrayList<>();
        int unit;
        boolean refuted;
        int[] totals = new int[4];
        int ended = -1;
        int core;
        Map<Integer, Boolean> model;
        int closed = -1;

        Kept copy() {
            Kept k = new Kept();
            k.v = v;
            k.clauses = new ArrayList<>(clauses);
            k.telling = new ArrayList<>(telling);
            k.assumptions = new ArrayList<>(assumptions);
            k.phase = new HashMap<>(phase);
            k.score = new HashMap<>(score);
            k.log = new ArrayList<>(log);
            k.unit = unit;
            k.refuted = refuted;
            k.totals = totals.clone();
            k.ended = ended;
            k.core = core;
            k.model = model;
            k.closed = closed;
            return k;
        }
    }

    private static final class Wrong extends RuntimeException {
        private static final long serialVersionUID = 1L;
        final int fault;

        Wrong(int kind, int place) {
            fault = kind + 8 * place;
        }
    }

    Kept s = new Kept();
    final Kept[] kept = new Kept[2];
    List<Integer> tape = new ArrayList<>();
    int fault;

    // ---- what is told

    int feed(int... numbers) {
        if (tape.size() + 20 > 400) {
            return -1;
        }
        for (int n : numbers) {
            tape.addAll(List.of(n >>> 24, n >>> 16 & 255, n >>> 8 & 255, n & 255));
        }
        return tape.size();
    }

    boolean end(int n) {
        if (n < 0 || n > tape.size()) {
            return false;
        }
        tape = new ArrayList<>(tape.subList(0, n));
        return true;
    }

    private record Token(String text, int place) {
        boolean isInt() {
            return text.matches("[0-9][0-9]?");
        }

        int value() {
            return Integer.parseInt(text);
        }
    }

    private List<Token> tokens;
    private int at;

    private void startText() {
        StringBuilder b = new StringBuilder();
        for (int x : tape) {
            b.append((char) x);
        }
        tape = new ArrayList<>();
        tokens = new ArrayList<>();
        at = 0;
        java.util.regex.Matcher m = java.util.regex.Pattern.compile("[a-z]+|[0-9]+|[^ \n]").matcher(b);
        while (m.find()) {
            tokens.add(new Token(m.group(), m.start()));
        }
        tokens.add(new Token("", b.length()));
    }

    private Token here() {
        return tokens.get(at);
    }

    private int lit(int variables, Set<Integer> there, boolean tooMany) {
        Token first = here();
        boolean minus = first.text.equals("-");
        if (minus) {
            if (tooMany) {
                throw new Wrong(3, first.place);
            }
            at++;
        }
        Token n = here();
        if (!n.isInt()) {
            throw new Wrong(1, n.place);
        }
        if (n.value() < 1 || n.value() > variables || there.contains(n.value())) {
            throw new Wrong(2, n.place);
        }
        if (tooMany) {
            throw new Wrong(3, first.place);
        }
        there.add(n.value());
        at++;
        return minus ? -n.value() : n.value();
    }

    private void stop() {
        if (!here().text.equals(";")) {
            throw new Wrong(1, here().place);
        }
        at++;
    }

    private long toldClauses() {
        return s.clauses.stream().filter(c -> !c.learnt).count();
    }

    private void statement() {
        String word = here().text;
        Set<Integer> there = new HashSet<>();
        List<Integer> row = new ArrayList<>();
        if (word.equals("grow")) {
            at++;
            if (!here().isInt()) {
                throw new Wrong(1, here().place);
            }
            if (here().value() == 0 || here().value() + s.v > 30) {
                throw new Wrong(2, here().place);
            }
            s.v += here().value();
            at++;
        } else if (word.equals("assume")) {
            at++;
            while (!here().text.equals(";")) {
                row.add(lit(s.v, there, row.size() == 8));
            }
            s.assumptions = row;
        } else if (word.equals("phase")) {
            at++;
            do {
                int x = lit(s.v, new HashSet<>(), false);
                s.phase.put(Math.abs(x), x > 0);
            } while (!here().text.equals(";"));
        } else {
            boolean full = toldClauses() == 80 || s.clauses.size() == 400;
            do {
                row.add(lit(s.v, there, full || row.size() == 8));
            } while (!here().text.equals(";"));
            s.clauses.add(new Clause(row, false, false));
        }
        stop();
    }

    int tell() {
        Kept before = s.copy();
        startText();
        int n = 0;
        fault = 0;
        try {
            while (!here().text.isEmpty()) {
                statement();
                n++;
            }
            return n;
        } catch (Wrong w) {
            s = before;
            fault = w.fault;
            return -1;
        }
    }

    int fault() {
        return fault;
    }

    int grow(int n) {
        if (n < 1 || n > 30 || s.v + n > 30) {
            return -1;
        }
        return s.v += n;
    }

    private boolean isLiteral(int x) {
        return x != 0 && Math.abs((long) x) <= s.v;
    }

    private int more(List<Integer> row, int x) {
        if (row.size() == 8 || !isLiteral(x) || row.contains(x) || row.contains(-x)) {
            return -1;
        }
        row.add(x);
        return row.size();
    }

    int add(int x) {
        return more(s.telling, x);
    }

    int close() {
        if (s.telling.isEmpty() || toldClauses() == 80 || s.clauses.size() == 400) {
            return -1;
        }
        s.clauses.add(new Clause(s.telling, false, false));
        s.telling = new ArrayList<>();
        return s.clauses.size() - 1;
    }

    int assume(int x) {
        return more(s.assumptions, x);
    }

    int free() {
        int n = s.assumptions.size();
        s.assumptions = new ArrayList<>();
        return n;
    }

    private boolean phaseOf(int v) {
        return s.phase.getOrDefault(v, false);
    }

    boolean phase(int x) {
        if (!isLiteral(x) || phaseOf(Math.abs(x)) == (x > 0)) {
            return false;
        }
        s.phase.put(Math.abs(x), x > 0);
        return true;
    }

    boolean unit(int n) {
        if (n < 0 || n > 50 || s.unit == n) {
            return false;
        }
        s.unit = n;
        return true;
    }

    int forget(int n) {
        if (n < 1 || n > 30) {
            return -1;
        }
        int gone = 0;
        for (int i = 0; i < s.clauses.size(); i++) {
            Clause c = s.clauses.get(i);
            if (c.learnt && !c.gone && c.literals.size() > n) {
                s.clauses.set(i, new Clause(c.literals, true, true));
                gone++;
            }
        }
        return gone;
    }

    boolean keep(int slot) {
        if (slot != 0 && slot != 1) {
            return false;
        }
        kept[slot] = s.copy();
        return true;
    }

    boolean back(int slot) {
        if (slot != 0 && slot != 1 || kept[slot] == null) {
            return false;
        }
        s = kept[slot].copy();
        return true;
    }

    // ---- searches

    private List<Integer> trail = new ArrayList<>();
    private Map<Integer, Integer> levelOf = new HashMap<>();
    private Map<Integer, Integer> reasonOf = new HashMap<>();
    private int level;

    private void come(int literal, int reason) {
        trail.add(literal);
        levelOf.put(Math.abs(literal), level);
        reasonOf.put(Math.abs(literal), reason);
    }

    private void leave(int above) {
        for (int i = trail.size() - 1; i >= 0; i--) {
            int x = trail.get(i);
            if (levelOf.get(Math.abs(x)) > above) {
                s.phase.put(Math.abs(x), x > 0);
                trail.remove(i);
            }
        }
        level = Math.max(above, 0);
    }

    private boolean isTrue(int x) {
        return trail.contains(x);
    }

    private boolean isFalse(int x) {
        return trail.contains(-x);
    }

    private boolean isOpen(int x) {
        return !isTrue(x) && !isFalse(x);
    }

    private int allFalse() {
        for (int i = 0; i < s.clauses.size(); i++) {
            if (!s.clauses.get(i).gone && s.clauses.get(i).literals.stream().allMatch(this::isFalse)) {
                return i;
            }
        }
        return -1;
    }

    private int oneOpen() {
        for (int i = 0; i < s.clauses.size(); i++) {
            List<Integer> c = s.clauses.get(i).literals;
            if (!s.clauses.get(i).gone && c.stream().filter(this::isOpen).count() == 1
                && c.stream().filter(this::isFalse).count() == c.size() - 1) {
                return i;
            }
        }
        return -1;
    }

    private int openOf(int clause) {
        return s.clauses.get(clause).literals.stream().filter(this::isOpen).findFirst().get();
    }

    private static int luby(int i) {
        List<Integer> row = new ArrayList<>();
        for (int k = 0; row.size() < i; k++) {
            row.addAll(new ArrayList<>(row));
            row.add(1 << k);
        }
        return row.get(i - 1);
    }

    private Set<Integer> othersAbove(int clause, int but) {
        Set<Integer> found = new HashSet<>();
        for (int x : s.clauses.get(clause).literals) {
            if (Math.abs(x) != but && levelOf.get(Math.abs(x)) > 0) {
                found.add(Math.abs(x));
            }
        }
        return found;
    }

    private List<Integer> learn(int conflict) {
        Set<Integer> left = othersAbove(conflict, 0);
        Set<Integer> seen = new HashSet<>(left);
        while (left.stream().filter(v -> levelOf.get(v) == level).count() >= 2) {
            int latest = 0;
            for (int x : trail) {
                if (left.contains(Math.abs(x)) && levelOf.get(Math.abs(x)) == level) {
                    latest = Math.abs(x);
                }
            }
            Set<Integer> others = othersAbove(reasonOf.get(latest), latest);
            left.remove(latest);
            left.addAll(others);
            seen.addAll(others);
        }
        List<Integer> order = new ArrayList<>(new TreeSet<>(left));
        order.sort((p, q) -> Integer.compare(levelOf.get(q), levelOf.get(p)));
        List<Integer> row = new ArrayList<>();
        for (int v : order) {
            boolean dropped = v != order.get(0) && reasonOf.get(v) != -1
                && left.containsAll(othersAbove(reasonOf.get(v), v));
            if (!dropped) {
                row.add(isTrue(v) ? -v : v);
            }
        }
        for (int v = 1; v <= s.v; v++) {
            int score = s.score.getOrDefault(v, 0) + (seen.contains(v) ? 16 : 0);
            s.score.put(v, score - (int) Math.floor(score / 8.0));
        }
        return row;
    }

    private int coreOf(int assumption) {
        Set<Integer> found = new HashSet<>(List.of(assumption));
        List<Integer> open = new ArrayList<>(List.of(-assumption));
        Set<Integer> done = new HashSet<>();
        while (!open.isEmpty()) {
            int x = open.remove(open.size() - 1);
            int v = Math.abs(x);
            if (!done.add(v)) {
                continue;
            }
            if (reasonOf.get(v) == -1) {
                if (levelOf.get(v) > 0) {
                    found.add(x);
                }
            } else {
                for (int y : s.clauses.get(reasonOf.get(v)).literals) {
                    if (Math.abs(y) != v) {
                        open.add(-y);
                    }
                }
            }
        }
        int bits = 0;
        for (int i = 0; i < s.assumptions.size(); i++) {
            if (found.contains(s.assumptions.get(i))) {
                bits |= 1 << i;
            }
        }
        return bits;
    }

    int solve(int budget) {
        if (budget < 1 || budget > 200) {
            return -1;
        }
        clearTrail();
        s.core = 0;
        s.ended = s.refuted ? 0 : search(budget);
        leave(-1);
        return s.ended;
    }

    private void clearTrail() {
        trail = new ArrayList<>();
        levelOf = new HashMap<>();
        reasonOf = new HashMap<>();
        level = 0;
    }

    private int search(int budget) {
        int conflicts = 0;
        int since = 0;
        int anews = 0;
        while (true) {
            int conflict = allFalse();
            if (conflict != -1) {
                if (level == 0) {
                    s.refuted = true;
                    s.log.add(List.of());
                    return 0;
                }
                if (s.clauses.size() == 400) {
                    return 3;
                }
                List<Integer> row = learn(conflict);
                int to = 0;
                for (int x : row.subList(1, row.size())) {
                    to = Math.max(to, levelOf.get(Math.abs(x)));
                }
                leave(to);
                s.clauses.add(new Clause(row, true, false));
                s.log.add(List.copyOf(row));
                come(row.get(0), s.clauses.size() - 1);
                s.totals[0]++;
                conflicts++;
                since++;
                if (s.unit > 0 && since == s.unit * luby(anews + 1)) {
                    anews++;
                    s.totals[3]++;
                    since = 0;
                    leave(0);
                }
                if (conflicts == budget) {
                    return 2;
                }
                continue;
            }
            int one = oneOpen();
            if (one != -1) {
                come(openOf(one), one);
                s.totals[2]++;
                continue;
            }
            Integer first = null;
            for (int x : s.assumptions) {
                if (first == null && !isTrue(x)) {
                    first = x;
                }
            }
            if (first != null) {
                if (isFalse(first)) {
                    s.core = coreOf(first);
                    return 0;
                }
                level++;
                come(first, -1);
                continue;
            }
            if (trail.size() == s.v) {
                s.model = new HashMap<>();
                for (int x : trail) {
                    s.model.put(Math.abs(x), x > 0);
                }
                return 1;
            }
            int best = 0;
            for (int v = s.v; v >= 1; v--) {
                if (isOpen(v) && (best == 0 || s.score.getOrDefault(v, 0) >= s.score.getOrDefault(best, 0))) {
                    best = v;
                }
            }
            level++;
            s.totals[1]++;
            come(phaseOf(best) ? best : -best, -1);
        }
    }

    int count(int what) {
        List<Integer> all = Arrays.asList(s.v, s.clauses.size(), (int) toldClauses(),
            (int) s.clauses.stream().filter(c -> c.learnt && !c.gone).count(), s.assumptions.size(),
            s.telling.size(), s.unit, s.log.size(), s.refuted ? 1 : 0, tape.size(),
            s.totals[0], s.totals[1], s.totals[2], s.totals[3], s.ended);
        return what < 0 || what > 14 ? -1 : all.get(what);
    }

    int clause(int i, int what) {
        if (i < 0 || i >= s.clauses.size() || what < -3 || what >= s.clauses.get(i).literals.size()) {
            throw new NoSuchElementException();
        }
        Clause c = s.clauses.get(i);
        return what == -1 ? c.literals.size() : what == -2 ? (c.learnt ? 1 : 0)
            : what == -3 ? (c.gone ? 1 : 0) : c.literals.get(what);
    }

    int assumption(int i) {
        return i < 0 || i >= s.assumptions.size() ? 0 : s.assumptions.get(i);
    }

    int model(int v) {
        return s.model == null || !s.model.containsKey(v) ? -1 : s.model.get(v) ? 1 : 0;
    }

    int core() {
        return s.ended == 0 ? s.core : -1;
    }

    int variable(int v, int what) {
        if (v < 1 || v > s.v || what < 0 || what > 2) {
            return -1;
        }
        return what == 0 ? (phaseOf(v) ? 1 : 0) : what == 1 ? s.score.getOrDefault(v, 0)
            : (int) s.clauses.stream().filter(c -> !c.gone && (c.literals.contains(v) || c.literals.contains(-v))).count();
    }

    int follows(int i) {
        clearTrail();
        for (int one = oneOpen(); one != -1; one = oneOpen()) {
            come(openOf(one), one);
        }
        if (i == -1) {
            return allFalse() != -1 ? 100 : trail.size();
        }
        return i < 0 || i >= trail.size() ? 0 : trail.get(i);
    }

    // ---- the log and its reader

    int line(int line, int what) {
        if (line < 0 || line >= s.log.size() || what < -1 || what >= s.log.get(line).size()) {
            return -100;
        }
        return what == -1 ? s.log.get(line).size() : s.log.get(line).get(what);
    }

    private static boolean accepted(List<Integer> line, List<List<Integer>> by) {
        Set<Integer> isFalse = new HashSet<>(line);
        while (true) {
            boolean more = false;
            for (List<Integer> c : by) {
                List<Integer> rest = new ArrayList<>(c);
                rest.removeAll(isFalse);
                if (rest.isEmpty()) {
                    return true;
                }
                if (rest.size() == 1 && !isFalse.contains(-rest.get(0))) {
                    isFalse.add(-rest.get(0));
                    more = true;
                }
            }
            if (!more) {
                return false;
            }
        }
    }

    private List<List<Integer>> told() {
        List<List<Integer>> rows = new ArrayList<>();
        s.clauses.stream().filter(c -> !c.learnt).forEach(c -> rows.add(c.literals));
        return rows;
    }

    int proof() {
        List<List<Integer>> by = told();
        for (int i = 0; i < s.log.size(); i++) {
            if (!accepted(s.log.get(i), by)) {
                return i;
            }
            by.add(s.log.get(i));
        }
        return -1;
    }

    int refute() {
        startText();
        fault = 0;
        List<List<Integer>> lines = new ArrayList<>();
        try {
            while (!here().text.isEmpty()) {
                Set<Integer> there = new HashSet<>();
                List<Integer> row = new ArrayList<>();
                while (!here().text.equals(";")) {
                    row.add(lit(s.v, there, false));
                }
                stop();
                lines.add(row);
            }
        } catch (Wrong w) {
            fault = w.fault;
            return -1;
        }
        List<List<Integer>> by = told();
        int n = 0;
        while (n < lines.size() && accepted(lines.get(n), by)) {
            by.add(lines.get(n));
            n++;
        }
        s.closed = lines.subList(0, n).contains(Collections.<Integer>emptyList()) ? 1 : 0;
        return n;
    }

    int closed() {
        return s.closed;
    }

    // ---- all models

    private List<Integer> allModels() {
        List<Integer> found = new ArrayList<>();
        for (int m = 0; m < 1 << s.v; m++) {
            boolean all = true;
            for (Clause c : s.clauses) {
                boolean held = c.learnt;
                for (int x : c.literals) {
                    held |= (m >> (Math.abs(x) - 1) & 1) == (x > 0 ? 1 : 0);
                }
                all &= held;
            }
            if (all) {
                found.add(m);
            }
        }
        return found;
    }

    int models() {
        return s.v > 12 ? -1 : allModels().size();
    }

    int fixed(boolean so) {
        if (s.v > 12 || allModels().isEmpty()) {
            return -1;
        }
        int bits = (1 << s.v) - 1;
        for (int m : allModels()) {
            bits &= so ? m : ~m;
        }
        return bits;
    }
}
