import java.util.Arrays;
import java.util.NoSuchElementException;

/** A search over clauses that learns from its conflicts; the document's promises 1 to 29. */
public final class LearntReasons {
    /** There is none. */
    public static final int NONE = -1;

    private static final int MOST_VARIABLES = 30;
    private static final int MOST_CLAUSES = 400;
    private static final int MOST_TOLD = 80;
    private static final int MOST_LITERALS_TOLD = 8;
    private static final int MOST_ASSUMPTIONS = 8;
    private static final int MOST_BYTES = 400;
    private static final int MOST_UNIT = 50;
    private static final int MOST_BUDGET = 200;
    private static final int MOST_VARIABLES_OF_WORLDS = 12;
    private static final int SLOTS = 2;

    private static final int ENDED_REFUSED = 0;
    private static final int ENDED_MODEL = 1;
    private static final int ENDED_BUDGET = 2;
    private static final int ENDED_FULL = 3;

    private final State now;
    private final State[] kept;
    private final Search search;
    private final Reader reader;
    private final Text text;
    private final Statements statements;
    private final Worlds worlds;

    public LearntReasons() {
        now = new State();
        kept = new State[SLOTS];
        search = new Search(now);
        reader = new Reader();
        text = new Text();
        statements = new Statements(text, now);
        worlds = new Worlds();
    }

    // ---- what is told

    public int feed(int a, int b, int c, int d, int e) {
        if (text.length + 20 > MOST_BYTES) {
            return NONE;
        }
        text.appendNumber(a);
        text.appendNumber(b);
        text.appendNumber(c);
        text.appendNumber(d);
        text.appendNumber(e);
        return text.length;
    }

    public boolean end(int n) {
        if (n < 0 || n > text.length) {
            return false;
        }
        text.length = n;
        return true;
    }

    public int tell() {
        text.startReading();
        text.length = 0;
        return statements.read(false) == NONE ? NONE : statements.read(true);
    }

    public int fault() {
        return text.fault;
    }

    public int grow(int n) {
        if (n < 1 || n > MOST_VARIABLES - now.variables) {
            return NONE;
        }
        now.variables += n;
        return now.variables;
    }

    public int add(int literal) {
        return takeMore(now.telling, literal);
    }

    public int close() {
        if (now.telling.length == 0 || now.store.isFullForTold()) {
            return NONE;
        }
        int number = now.store.append(now.telling, false);
        now.telling.makeEmpty();
        return number;
    }

    public int assume(int literal) {
        return takeMore(now.assumptions, literal);
    }

    public int free() {
        int were = now.assumptions.length;
        now.assumptions.makeEmpty();
        return were;
    }

    public boolean phase(int literal) {
        if (!now.hasLiteral(literal) || now.phaseOf(variableOf(literal)) == (literal > 0)) {
            return false;
        }
        now.setPhase(literal);
        return true;
    }

    public boolean unit(int n) {
        if (n < 0 || n > MOST_UNIT || n == now.unit) {
            return false;
        }
        now.unit = n;
        return true;
    }

    public int forget(int n) {
        if (n < 1 || n > MOST_VARIABLES) {
            return NONE;
        }
        return now.store.dropLongerThan(n);
    }

    public boolean keep(int slot) {
        if (slot < 0 || slot >= SLOTS) {
            return false;
        }
        State place = kept[slot];
        if (place == null) {
            place = new State();
            kept[slot] = place;
        }
        place.copyFrom(now);
        return true;
    }

    public boolean back(int slot) {
        if (slot < 0 || slot >= SLOTS) {
            return false;
        }
        State place = kept[slot];
        if (place == null) {
            return false;
        }
        now.copyFrom(place);
        return true;
    }

    // ---- searches

    public int solve(int budget) {
        if (budget < 1 || budget > MOST_BUDGET) {
            return NONE;
        }
        return search.run(budget);
    }

    public int count(int what) {
        switch (what) {
            case 0: return now.variables;
            case 1: return now.store.size;
            case 2: return now.store.told;
            case 3: return now.store.learntLeft();
            case 4: return now.assumptions.length;
            case 5: return now.telling.length;
            case 6: return now.unit;
            case 7: return logLength();
            case 8: return now.refuted ? 1 : 0;
            case 9: return text.length;
            case 10: return now.conflicts;
            case 11: return now.decisions;
            case 12: return now.draws;
            case 13: return now.anews;
            case 14: return now.ended;
            default: return NONE;
        }
    }

    public int clause(int clause, int what) throws NoSuchElementException {
        Store store = now.store;
        if (clause < 0 || clause >= store.size || what < -3 || what >= store.lengthOf(clause)) {
            throw new NoSuchElementException();
        }
        switch (what) {
            case NONE: return store.lengthOf(clause);
            case -2: return store.isLearnt(clause) ? 1 : 0;
            case -3: return store.isGone(clause) ? 1 : 0;
            default: return store.literalOf(clause, what);
        }
    }

    public int assumption(int i) {
        return i < 0 || i >= now.assumptions.length ? 0 : now.assumptions.literals[i];
    }

    public int model(int variable) {
        if (variable < 1 || variable > now.modelVariables) {
            return NONE;
        }
        return (now.modelSo & bitOf(variable)) != 0 ? 1 : 0;
    }

    public int core() {
        return now.ended == ENDED_REFUSED ? now.core : NONE;
    }

    public int variable(int variable, int what) {
        if (variable < 1 || variable > now.variables) {
            return NONE;
        }
        switch (what) {
            case 0: return now.phaseOf(variable) ? 1 : 0;
            case 1: return now.scores[variable];
            case 2: return now.store.clausesWith(variable);
            default: return NONE;
        }
    }

    public int follows(int i) {
        if (i < NONE || i >= MOST_VARIABLES) {
            return 0;
        }
        boolean clash = search.drawAll();
        if (i == NONE) {
            return clash ? 100 : search.height;
        }
        return i < search.height ? search.trail[i] : 0;
    }

    // ---- the log and its reader

    public int line(int line, int what) {
        if (line < 0 || line >= logLength() || what < NONE) {
            return -100;
        }
        int number = now.store.learntAt(line);
        int length = number == NONE ? 0 : now.store.lengthOf(number);
        if (what == NONE) {
            return length;
        }
        return what < length ? now.store.literalOf(number, what) : -100;
    }

    public int proof() {
        return reader.firstRefused(now);
    }

    public int refute() {
        int accepted = reader.readLog(text, now);
        text.length = 0;
        if (accepted != NONE) {
            now.closed = reader.emptyAccepted ? 1 : 0;
        }
        return accepted;
    }

    public int closed() {
        return now.closed;
    }

    // ---- all models

    public int models() {
        if (now.variables > MOST_VARIABLES_OF_WORLDS) {
            return NONE;
        }
        worlds.sift(now);
        return worlds.howMany();
    }

    public int fixed(boolean so) {
        if (now.variables > MOST_VARIABLES_OF_WORLDS) {
            return NONE;
        }
        worlds.sift(now);
        return worlds.howMany() == 0 ? NONE : worlds.allAlike(now.variables, so);
    }

    private int takeMore(Row row, int literal) {
        if (!now.hasLiteral(literal) || !row.canTake(literal)) {
            return NONE;
        }
        row.put(literal);
        return row.length;
    }

    /** The EMPTY line stands behind the learnt ones: nothing is learnt once it is refuted. */
    private int logLength() {
        return now.store.learntEver() + (now.refuted ? 1 : 0);
    }

    private static int variableOf(int literal) {
        return literal < 0 ? -literal : literal;
    }

    private static int bitOf(int literal) {
        return 1 << ((literal < 0 ? -literal : literal) - 1);
    }

    /** Literals of variables all unlike, in order, up to a length. */
    private static final class Row {
        final int[] literals;
        int length;
        int variables;

        Row(int most) {
            literals = new int[most < 0 ? 0 : most];
        }

        boolean isFull() {
            return length >= literals.length;
        }

        boolean canTake(int literal) {
            return !isFull() && (variables & bitOf(literal)) == 0;
        }

        void put(int literal) {
            if (isFull()) {
                return;
            }
            literals[length] = literal;
            length++;
            variables |= bitOf(literal);
        }

        void makeEmpty() {
            length = 0;
            variables = 0;
        }

        void copyFrom(Row other) {
            makeEmpty();
            for (int i = 0; i < other.length; i++) {
                put(other.literals[i]);
            }
        }
    }

    /** The clauses by number: as masks of variables for the search, and as rows in their order. */
    private static final class Store {
        private static final int TOLD = 0;
        private static final int LEARNT = 1;
        private static final int GONE = 2;

        final int[] plus = new int[MOST_CLAUSES];
        final int[] minus = new int[MOST_CLAUSES];
        final byte[] kinds = new byte[MOST_CLAUSES];
        final int[] starts = new int[MOST_CLAUSES + 1];
        int[] literals = new int[512];
        int size;
        int told;

        boolean isFull() {
            return size >= MOST_CLAUSES;
        }

        boolean isFullForTold() {
            return told >= MOST_TOLD || isFull();
        }

        int append(Row row, boolean learnt) {
            if (isFull()) {
                return NONE;
            }
            int from = starts[size];
            makeRoom(from + row.length);
            plus[size] = 0;
            minus[size] = 0;
            for (int i = 0; i < row.length; i++) {
                int literal = row.literals[i];
                literals[from + i] = literal;
                if (literal > 0) {
                    plus[size] |= bitOf(literal);
                } else {
                    minus[size] |= bitOf(literal);
                }
            }
            kinds[size] = (byte) (learnt ? LEARNT : TOLD);
            told += learnt ? 0 : 1;
            size++;
            starts[size] = from + row.length;
            return size - 1;
        }

        private void makeRoom(int needed) {
            if (needed > literals.length) {
                literals = Arrays.copyOf(literals, Math.max(needed, 2 * literals.length));
            }
        }

        int lengthOf(int number) {
            return starts[number + 1] - starts[number];
        }

        int literalOf(int number, int i) {
            return literals[starts[number] + i];
        }

        int variablesOf(int number) {
            return plus[number] | minus[number];
        }

        boolean isLearnt(int number) {
            return kinds[number] != TOLD;
        }

        boolean isGone(int number) {
            return kinds[number] == GONE;
        }

        int learntEver() {
            return size - told;
        }

        int learntLeft() {
            int left = 0;
            for (int i = 0; i < size; i++) {
                left += kinds[i] == LEARNT ? 1 : 0;
            }
            return left;
        }

        /** The number of the clause that was learnt as the line-th; NONE: not so many were. */
        int learntAt(int line) {
            int before = 0;
            for (int i = 0; i < size; i++) {
                if (!isLearnt(i)) {
                    continue;
                }
                if (before == line) {
                    return i;
                }
                before++;
            }
            return NONE;
        }

        int dropLongerThan(int n) {
            int dropped = 0;
            for (int i = 0; i < size; i++) {
                if (kinds[i] == LEARNT && lengthOf(i) > n) {
                    kinds[i] = GONE;
                    dropped++;
                }
            }
            return dropped;
        }

        int clausesWith(int variable) {
            int with = 0;
            for (int i = 0; i < size; i++) {
                with += !isGone(i) && (variablesOf(i) & bitOf(variable)) != 0 ? 1 : 0;
            }
            return with;
        }

        void copyFrom(Store other) {
            size = other.size;
            told = other.told;
            System.arraycopy(other.plus, 0, plus, 0, size);
            System.arraycopy(other.minus, 0, minus, 0, size);
            System.arraycopy(other.kinds, 0, kinds, 0, size);
            System.arraycopy(other.starts, 0, starts, 0, size + 1);
            makeRoom(starts[size]);
            System.arraycopy(other.literals, 0, literals, 0, starts[size]);
        }
    }

    /** All that keep and back are about. */
    private static final class State {
        final Store store = new Store();
        final Row telling = new Row(MOST_LITERALS_TOLD);
        final Row assumptions = new Row(MOST_ASSUMPTIONS);
        final int[] scores = new int[MOST_VARIABLES + 1];
        int variables;
        int phases;
        int unit;
        boolean refuted;
        int conflicts;
        int decisions;
        int draws;
        int anews;
        int ended = NONE;
        int core;
        int modelSo;
        int modelVariables;
        int closed = NONE;

        boolean hasLiteral(int literal) {
            return literal != 0 && literal <= variables && literal >= -variables;
        }

        boolean phaseOf(int variable) {
            return (phases & bitOf(variable)) != 0;
        }

        void setPhase(int literal) {
            if (literal > 0) {
                phases |= bitOf(literal);
            } else {
                phases &= ~bitOf(literal);
            }
        }

        void copyFrom(State other) {
            store.copyFrom(other.store);
            telling.copyFrom(other.telling);
            assumptions.copyFrom(other.assumptions);
            System.arraycopy(other.scores, 0, scores, 0, scores.length);
            variables = other.variables;
            phases = other.phases;
            unit = other.unit;
            refuted = other.refuted;
            conflicts = other.conflicts;
            decisions = other.decisions;
            draws = other.draws;
            anews = other.anews;
            ended = other.ended;
            core = other.core;
            modelSo = other.modelSo;
            modelVariables = other.modelVariables;
            closed = other.closed;
        }
    }

    /** One SEARCH at a time over a state; its steps a to e are tried anew after each of them. */
    private static final class Search {
        private static final int GOES_ON = -1;
        private static final int MOST_STEPS = 1000000;

        private final State state;
        final int[] trail = new int[MOST_VARIABLES];
        int height;
        private final int[] levels = new int[MOST_VARIABLES + 1];
        private final int[] reasons = new int[MOST_VARIABLES + 1];
        private final Row learnt = new Row(MOST_VARIABLES);
        private int so;
        private int notSo;
        private int level;
        private int clash;
        private int drawn;
        private int conflictsHere;
        private int conflictsSinceAnew;
        private int anewsHere;
        private int above;
        private int left;
        private int seen;

        Search(State state) {
            this.state = state;
        }

        int run(int budget) {
            startEmpty();
            int ended = state.refuted ? ENDED_REFUSED : GOES_ON;
            state.core = 0;
            for (int i = 0; i < MOST_STEPS && ended == GOES_ON; i++) {
                ended = step(budget);
            }
            leaveAbove(-1);
            state.ended = ended;
            return ended;
        }

        /** What b) alone draws, onto the trail; whether a clause is all false behind that. */
        boolean drawAll() {
            startEmpty();
            look();
            for (int i = 0; i < MOST_VARIABLES && drawn != NONE; i++) {
                put(openLiteralOf(drawn), drawn);
                look();
            }
            return clash != NONE;
        }

        private void startEmpty() {
            height = 0;
            so = 0;
            notSo = 0;
            level = 0;
            conflictsHere = 0;
            conflictsSinceAnew = 0;
            anewsHere = 0;
        }

        private int step(int budget) {
            look();
            if (clash != NONE) {
                return meetConflict(budget);
            }
            if (drawn != NONE) {
                state.draws++;
                put(openLiteralOf(drawn), drawn);
                return GOES_ON;
            }
            int waiting = firstAssumptionNotTrue();
            if (waiting != NONE) {
                return takeAssumption(waiting);
            }
            if (height >= state.variables) {
                state.modelSo = so;
                state.modelVariables = state.variables;
                return ENDED_MODEL;
            }
            decide();
            return GOES_ON;
        }

        /** The least clause that is all false, and the least of which one literal is left open. */
        private void look() {
            Store store = state.store;
            int set = so | notSo;
            clash = NONE;
            drawn = NONE;
            for (int i = 0; i < store.size; i++) {
                int plus = store.plus[i];
                int minus = store.minus[i];
                if (((plus & so) | (minus & notSo)) != 0 || store.kinds[i] == Store.GONE) {
                    continue;
                }
                int open = (plus | minus) & ~set;
                if (open == 0) {
                    clash = clash == NONE ? i : clash;
                } else if (drawn == NONE && (open & (open - 1)) == 0) {
                    drawn = i;
                }
            }
        }

        private int openLiteralOf(int number) {
            int open = state.store.variablesOf(number) & ~(so | notSo);
            int variable = Integer.bitCount(open - 1) + 1;
            return (state.store.plus[number] & open) != 0 ? variable : -variable;
        }

        private void put(int literal, int reason) {
            int variable = variableOf(literal);
            if (height >= trail.length || variable < 1 || variable > MOST_VARIABLES) {
                return;
            }
            trail[height] = literal;
            height++;
            levels[variable] = level;
            reasons[variable] = reason;
            if (literal > 0) {
                so |= bitOf(literal);
            } else {
                notSo |= bitOf(literal);
            }
        }

        private void leaveAbove(int least) {
            for (int i = height - 1; i >= 0 && levels[variableOf(trail[i])] > least; i--) {
                int bit = bitOf(trail[i]);
                state.phases = trail[i] > 0 ? state.phases | bit : state.phases & ~bit;
                so &= ~bit;
                notSo &= ~bit;
                height = i;
            }
            level = Math.max(least, 0);
        }

        private int firstAssumptionNotTrue() {
            Row assumptions = state.assumptions;
            for (int i = 0; i < assumptions.length; i++) {
                int literal = assumptions.literals[i];
                if (((literal > 0 ? so : notSo) & bitOf(literal)) == 0) {
                    return i;
                }
            }
            return NONE;
        }

        private int takeAssumption(int place) {
            int literal = state.assumptions.literals[place];
            if (((so | notSo) & bitOf(literal)) == 0) {
                level++;
                put(literal, NONE);
                return GOES_ON;
            }
            state.core = coreOf(place);
            return ENDED_REFUSED;
        }

        /** Walks the trail backwards: reasons only ever point to what came earlier. */
        private int coreOf(int place) {
            int core = 1 << place;
            int wanted = bitOf(state.assumptions.literals[place]);
            for (int i = height - 1; i >= 0; i--) {
                int variable = variableOf(trail[i]);
                if ((wanted & bitOf(variable)) == 0) {
                    continue;
                }
                if (reasons[variable] != NONE) {
                    wanted |= state.store.variablesOf(reasons[variable]);
                } else if (levels[variable] > 0) {
                    core |= assumptionBitOf(variable);
                }
            }
            return core;
        }

        private int assumptionBitOf(int variable) {
            for (int i = 0; i < state.assumptions.length; i++) {
                if (variableOf(state.assumptions.literals[i]) == variable) {
                    return 1 << i;
                }
            }
            return 0;
        }

        private void decide() {
            int best = 0;
            for (int v = 1; v <= state.variables; v++) {
                boolean open = ((so | notSo) & bitOf(v)) == 0;
                if (open && (best == 0 || state.scores[v] > state.scores[best])) {
                    best = v;
                }
            }
            level++;
            state.decisions++;
            put(state.phaseOf(best) ? best : -best, NONE);
        }

        private int meetConflict(int budget) {
            if (level == 0) {
                state.refuted = true;
                return ENDED_REFUSED;
            }
            if (state.store.isFull()) {
                return ENDED_FULL;
            }
            conflictsHere++;
            conflictsSinceAnew++;
            state.conflicts++;
            resolve();
            orderAndTrim();
            raiseScores();
            leap();
            startAnewIfDue();
            return conflictsHere >= budget ? ENDED_BUDGET : GOES_ON;
        }

        /** From the clash back by reasons, until one variable of the level now is left. */
        private void resolve() {
            int nowLevel = variablesFrom(level);
            above = variablesFrom(1);
            left = state.store.variablesOf(clash) & above;
            seen = left;
            for (int i = height - 1; i >= 0 && Integer.bitCount(left & nowLevel) >= 2; i--) {
                int variable = variableOf(trail[i]);
                int bit = bitOf(variable);
                if ((left & bit) == 0 || reasons[variable] == NONE) {
                    continue;
                }
                int others = state.store.variablesOf(reasons[variable]) & above & ~bit;
                left = (left & ~bit) | others;
                seen |= others;
            }
        }

        private int variablesFrom(int leastLevel) {
            int found = 0;
            for (int i = 0; i < height; i++) {
                int variable = variableOf(trail[i]);
                if (levels[variable] >= leastLevel) {
                    found |= bitOf(variable);
                }
            }
            return found;
        }

        private void orderAndTrim() {
            learnt.makeEmpty();
            for (int at = level; at >= 1; at--) {
                for (int v = 1; v <= state.variables; v++) {
                    if ((left & bitOf(v)) == 0 || levels[v] != at) {
                        continue;
                    }
                    if (at == level || !isImplied(v)) {
                        learnt.put((so & bitOf(v)) != 0 ? -v : v);
                    }
                }
            }
        }

        private boolean isImplied(int variable) {
            if (reasons[variable] == NONE) {
                return false;
            }
            int others = state.store.variablesOf(reasons[variable]) & ~bitOf(variable);
            return (others & above & ~left) == 0;
        }

        private void raiseScores() {
            for (int v = 1; v <= state.variables; v++) {
                int raised = state.scores[v] + ((seen & bitOf(v)) != 0 ? 16 : 0);
                state.scores[v] = raised - raised / 8;
            }
        }

        private void leap() {
            int target = learnt.length > 1 ? levels[variableOf(learnt.literals[1])] : 0;
            leaveAbove(target);
            int number = state.store.append(learnt, true);
            put(learnt.literals[0], number);
        }

        private void startAnewIfDue() {
            if (state.unit == 0 || conflictsSinceAnew < state.unit * luby(anewsHere + 1)) {
                return;
            }
            state.anews++;
            anewsHere++;
            conflictsSinceAnew = 0;
            leaveAbove(0);
        }

        /** Takes off rows of 2^k - 1 numbers until the place is the last one of such a row. */
        private static int luby(int place) {
            int rest = place;
            for (int i = 0; i < 32; i++) {
                int power = 1;
                for (int k = 0; k < 30 && 2 * power - 1 <= rest; k++) {
                    power *= 2;
                }
                if (power - 1 == rest) {
                    return power / 2;
                }
                rest -= power - 1;
            }
            return 1;
        }
    }

    /** The small reader of logs: told clauses and lines, as masks, and whether they draw a line. */
    private static final class Reader {
        private static final int MOST_ROWS = MOST_TOLD + MOST_CLAUSES + 1;

        private final int[] plus = new int[MOST_ROWS];
        private final int[] minus = new int[MOST_ROWS];
        private int size;
        private int linePlus;
        private int lineMinus;
        boolean emptyAccepted;

        /** The first line of the state's own log that is not accepted, or NONE. */
        int firstRefused(State state) {
            startWithTold(state.store);
            int at = 0;
            for (int i = 0; i < state.store.size; i++) {
                if (!state.store.isLearnt(i)) {
                    continue;
                }
                if (!accepts(state.store.plus[i], state.store.minus[i])) {
                    return at;
                }
                take(state.store.plus[i], state.store.minus[i]);
                at++;
            }
            return state.refuted && !accepts(0, 0) ? at : NONE;
        }

        /** How many lines of a told log are accepted, or NONE at a fault anywhere in it. */
        int readLog(Text text, State state) {
            startWithTold(state.store);
            text.startReading();
            emptyAccepted = false;
            boolean all = true;
            int accepted = 0;
            for (int i = 0; i <= MOST_BYTES && text.token != Text.END; i++) {
                if (!readLine(text, state.variables)) {
                    return NONE;
                }
                all = all && accepts(linePlus, lineMinus);
                if (all) {
                    accepted++;
                    emptyAccepted = emptyAccepted || (linePlus | lineMinus) == 0;
                    take(linePlus, lineMinus);
                }
                text.advance();
            }
            return accepted;
        }

        private boolean readLine(Text text, int variables) {
            linePlus = 0;
            lineMinus = 0;
            for (int i = 0; i <= MOST_BYTES && text.token != Text.STOP; i++) {
                int literal = text.readLiteral(variables, linePlus | lineMinus, false);
                if (literal == 0) {
                    return false;
                }
                if (literal > 0) {
                    linePlus |= bitOf(literal);
                } else {
                    lineMinus |= bitOf(literal);
                }
            }
            return true;
        }

        private void startWithTold(Store store) {
            size = 0;
            for (int i = 0; i < store.size; i++) {
                if (!store.isLearnt(i)) {
                    take(store.plus[i], store.minus[i]);
                }
            }
        }

        private void take(int linesPlus, int linesMinus) {
            if (size >= MOST_ROWS) {
                return;
            }
            plus[size] = linesPlus;
            minus[size] = linesMinus;
            size++;
        }

        /** Which clause draws first is no matter here: what can be drawn at last is the same. */
        private boolean accepts(int falsePlus, int falseMinus) {
            int so = falseMinus;
            int notSo = falsePlus;
            boolean drew = true;
            for (int pass = 0; pass <= MOST_VARIABLES && drew; pass++) {
                drew = false;
                for (int i = 0; i < size; i++) {
                    if (((plus[i] & so) | (minus[i] & notSo)) != 0) {
                        continue;
                    }
                    int open = (plus[i] | minus[i]) & ~(so | notSo);
                    if (open == 0) {
                        return true;
                    }
                    if ((open & (open - 1)) == 0) {
                        so |= plus[i] & open;
                        notSo |= minus[i] & open;
                        drew = true;
                    }
                }
            }
            return false;
        }
    }

    /** The TAPE as bytes and, once it is read, as tokens; and the FAULT that was found in it. */
    private static final class Text {
        // A token that is an INT is told by its value, from 0 on; the others are these.
        static final int MINUS = -1;
        static final int STOP = -2;
        static final int GROW = -3;
        static final int ASSUME = -4;
        static final int PHASE = -5;
        static final int WRONG = -6;
        static final int END = -7;

        static final int CANNOT_STAND = 1;
        static final int BAD_INT = 2;
        static final int TOO_MANY = 3;

        private final byte[] bytes = new byte[MOST_BYTES];
        private final byte[] tokens = new byte[MOST_BYTES + 1];
        private final short[] places = new short[MOST_BYTES + 1];
        private int size;
        private int at;
        int length;
        int fault;
        int token;

        void appendNumber(int number) {
            for (int shift = 24; shift >= 0 && length < MOST_BYTES; shift -= 8) {
                bytes[length] = (byte) (number >> shift);
                length++;
            }
        }

        /** Splits the bytes into tokens; the first one is the token now. */
        void startReading() {
            size = 0;
            int from = 0;
            for (int i = 0; i < MOST_BYTES && from < length; i++) {
                int to = endOfToken(from);
                if (!isBlank(from)) {
                    keepToken(tokenOf(from, to), from);
                }
                from = to;
            }
            keepToken(END, length);
            fault = 0;
            startAgain();
        }

        void startAgain() {
            at = 0;
            token = tokens[at];
        }

        void advance() {
            if (at < size - 1) {
                at++;
            }
            token = tokens[at];
        }

        /** Marks a fault at the token now; always false, so that it can be returned. */
        boolean refuse(int kind) {
            fault = kind + 8 * places[at];
            return false;
        }

        private void keepToken(int what, int place) {
            if (size > MOST_BYTES) {
                return;
            }
            tokens[size] = (byte) what;
            places[size] = (short) place;
            size++;
        }

        private int endOfToken(int from) {
            int to = from + 1;
            if (isDigit(from)) {
                while (to < length && isDigit(to)) {
                    to++;
                }
            } else if (isLetter(from)) {
                while (to < length && isLetter(to)) {
                    to++;
                }
            }
            return to;
        }

        private int tokenOf(int from, int to) {
            if (isDigit(from)) {
                int first = bytes[from] - '0';
                return to - from == 1 ? first : to - from == 2 ? 10 * first + bytes[from + 1] - '0' : WRONG;
            }
            if (isLetter(from)) {
                return isWord("grow", from, to) ? GROW
                    : isWord("assume", from, to) ? ASSUME
                    : isWord("phase", from, to) ? PHASE : WRONG;
            }
            return bytes[from] == '-' ? MINUS : bytes[from] == ';' ? STOP : WRONG;
        }

        private boolean isBlank(int place) {
            return bytes[place] == 32 || bytes[place] == 10;
        }

        private boolean isDigit(int place) {
            return bytes[place] >= '0' && bytes[place] <= '9';
        }

        private boolean isLetter(int place) {
            return bytes[place] >= 'a' && bytes[place] <= 'z';
        }

        private boolean isWord(String word, int from, int to) {
            if (to - from != word.length()) {
                return false;
            }
            for (int i = 0; i < word.length(); i++) {
                if (bytes[from + i] != word.charAt(i)) {
                    return false;
                }
            }
            return true;
        }

        /** The LIT that begins at the token now; 0 at a fault. The tests go by places, then by kinds. */
        int readLiteral(int variables, int taken, boolean tooMany) {
            boolean negative = token == MINUS;
            if (negative && tooMany) {
                refuse(TOO_MANY);
                return 0;
            }
            if (negative) {
                advance();
            }
            int number = token;
            if (number < 0) {
                refuse(CANNOT_STAND);
                return 0;
            }
            if (number < 1 || number > variables || (taken & bitOf(number)) != 0) {
                refuse(BAD_INT);
                return 0;
            }
            if (tooMany) {
                refuse(TOO_MANY);
                return 0;
            }
            advance();
            return negative ? -number : number;
        }
    }

    /** The statements of a text, read once to find a fault and once more to do them. */
    private static final class Statements {
        private final Text text;
        private final State state;
        private final Row row = new Row(MOST_LITERALS_TOLD);
        private boolean doing;
        private int variables;
        private int told;
        private int all;

        Statements(Text text, State state) {
            this.text = text;
            this.state = state;
        }

        /** How many statements there are, NONE at a fault; they are done if it is meant. */
        int read(boolean really) {
            doing = really;
            variables = state.variables;
            told = state.store.told;
            all = state.store.size;
            text.startAgain();
            int read = 0;
            for (int i = 0; i <= MOST_BYTES && text.token != Text.END; i++) {
                if (!readStatement()) {
                    return NONE;
                }
                text.advance();
                read++;
            }
            return read;
        }

        private boolean readStatement() {
            switch (text.token) {
                case Text.GROW: return readGrow();
                case Text.ASSUME: return readAssume();
                case Text.PHASE: return readPhases();
                default: return readClause();
            }
        }

        private boolean readGrow() {
            text.advance();
            if (text.token < 0) {
                return text.refuse(Text.CANNOT_STAND);
            }
            if (text.token == 0 || variables + text.token > MOST_VARIABLES) {
                return text.refuse(Text.BAD_INT);
            }
            variables += text.token;
            if (doing) {
                state.variables = variables;
            }
            text.advance();
            return text.token == Text.STOP || text.refuse(Text.CANNOT_STAND);
        }

        private boolean readAssume() {
            text.advance();
            if (!readRow(false)) {
                return false;
            }
            if (doing) {
                state.assumptions.copyFrom(row);
            }
            return true;
        }

        private boolean readPhases() {
            text.advance();
            if (text.token == Text.STOP) {
                return text.refuse(Text.CANNOT_STAND);
            }
            for (int i = 0; i <= MOST_BYTES && text.token != Text.STOP; i++) {
                int literal = text.readLiteral(variables, 0, false);
                if (literal == 0) {
                    return false;
                }
                if (doing) {
                    state.setPhase(literal);
                }
            }
            return true;
        }

        private boolean readClause() {
            if (text.token == Text.STOP) {
                return text.refuse(Text.CANNOT_STAND);
            }
            if (!readRow(told >= MOST_TOLD || all >= MOST_CLAUSES)) {
                return false;
            }
            told++;
            all++;
            if (doing) {
                state.store.append(row, false);
            }
            return true;
        }

        /** The LITs up to the stop, into the row; one where it is full is refused. */
        private boolean readRow(boolean full) {
            row.makeEmpty();
            for (int i = 0; i <= MOST_LITERALS_TOLD && text.token != Text.STOP; i++) {
                int literal = text.readLiteral(variables, row.variables, full || row.isFull());
                if (literal == 0) {
                    return false;
                }
                row.put(literal);
            }
            return true;
        }
    }

    /** All ways that 12 variables can be, as bits of 64 words: those that the told clauses leave. */
    private static final class Worlds {
        private static final int WORD_VARIABLES = 6;
        private static final long[] COLUMNS = {
            0xAAAAAAAAAAAAAAAAL, 0xCCCCCCCCCCCCCCCCL, 0xF0F0F0F0F0F0F0F0L,
            0xFF00FF00FF00FF00L, 0xFFFF0000FFFF0000L, 0xFFFFFFFF00000000L
        };

        private final long[] words = new long[1 << (MOST_VARIABLES_OF_WORLDS - WORD_VARIABLES)];
        private int used;

        void sift(State state) {
            startWithAll(state.variables);
            Store store = state.store;
            for (int i = 0; i < store.size; i++) {
                if (!store.isLearnt(i)) {
                    leaveThoseOf(store.plus[i], store.minus[i]);
                }
            }
        }

        private void startWithAll(int variables) {
            int high = Math.min(Math.max(variables, WORD_VARIABLES), MOST_VARIABLES_OF_WORLDS);
            used = 1 << (high - WORD_VARIABLES);
            long full = variables >= WORD_VARIABLES ? -1L : (1L << (1 << variables)) - 1;
            Arrays.fill(words, 0, used, full);
        }

        private void leaveThoseOf(int plus, int minus) {
            for (int w = 0; w < used; w++) {
                long held = 0;
                for (int v = 1; v <= MOST_VARIABLES_OF_WORLDS; v++) {
                    if ((plus & bitOf(v)) != 0) {
                        held |= column(v, w);
                    } else if ((minus & bitOf(v)) != 0) {
                        held |= ~column(v, w);
                    }
                }
                words[w] &= held;
            }
        }

        /** In which ways of a word a variable is so. */
        private static long column(int variable, int word) {
            if (variable <= WORD_VARIABLES) {
                return COLUMNS[variable - 1];
            }
            return (word >> (variable - WORD_VARIABLES - 1) & 1) != 0 ? -1L : 0L;
        }

        int howMany() {
            int found = 0;
            for (int w = 0; w < used; w++) {
                found += Long.bitCount(words[w]);
            }
            return found;
        }

        int allAlike(int variables, boolean so) {
            int alike = 0;
            for (int v = 1; v <= variables; v++) {
                alike |= isAlike(v, so) ? bitOf(v) : 0;
            }
            return alike;
        }

        private boolean isAlike(int variable, boolean so) {
            for (int w = 0; w < used; w++) {
                long column = column(variable, w);
                if ((words[w] & (so ? ~column : column)) != 0) {
                    return false;
                }
            }
            return true;
        }
    }
}
