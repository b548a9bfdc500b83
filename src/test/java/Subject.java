import java.util.ArrayList;
import java.util.List;
import java.util.NoSuchElementException;

/**
 * An object of the class as a test may use it: for at most 512 calls, for what later calls answer is free.
 * All calls are written down, so that what would be answered now can be asked of other objects, which
 * were called alike: these questions are no calls of this one.
 */
final class Subject {
    static final int MOST_CALLS = 512;

    /** One call; a boolean answer is 1 or 0. */
    interface Call {
        int on(LearntReasons object);
    }

    private final LearntReasons object = new LearntReasons();
    private final List<Call> calls = new ArrayList<>();
    private LearntReasons alike;
    private int callsLeftOfAlike;

    int callsLeft() {
        return MOST_CALLS - calls.size();
    }

    /** What this call would answer now, without being made. */
    int aside(Call question) {
        if (callsLeft() < 1) {
            throw new IllegalStateException("no call is left to ask by");
        }
        if (callsLeftOfAlike < 1) {
            makeAlike();
        }
        callsLeftOfAlike--;
        return question.on(alike);
    }

    private void makeAlike() {
        alike = new LearntReasons();
        for (Call call : calls) {
            try {
                call.on(alike);
            } catch (NoSuchElementException e) {
                continue; // thrown to the test, too, when it made this call
            }
        }
        callsLeftOfAlike = callsLeft();
    }

    private int make(Call call) {
        if (callsLeft() < 1) {
            throw new IllegalStateException("a call behind the 512th, what it answers is free");
        }
        calls.add(call);
        callsLeftOfAlike = 0;
        return call.on(object);
    }

    private static int numberOf(boolean answer) {
        return answer ? 1 : 0;
    }

    // ---- the face

    int feed(int a, int b, int c, int d, int e) {
        return make(x -> x.feed(a, b, c, d, e));
    }

    boolean end(int n) {
        return make(x -> numberOf(x.end(n))) != 0;
    }

    int tell() {
        return make(LearntReasons::tell);
    }

    int fault() {
        return make(LearntReasons::fault);
    }

    int grow(int n) {
        return make(x -> x.grow(n));
    }

    int add(int literal) {
        return make(x -> x.add(literal));
    }

    int close() {
        return make(LearntReasons::close);
    }

    int assume(int literal) {
        return make(x -> x.assume(literal));
    }

    int free() {
        return make(LearntReasons::free);
    }

    boolean phase(int literal) {
        return make(x -> numberOf(x.phase(literal))) != 0;
    }

    boolean unit(int n) {
        return make(x -> numberOf(x.unit(n))) != 0;
    }

    int forget(int n) {
        return make(x -> x.forget(n));
    }

    boolean keep(int slot) {
        return make(x -> numberOf(x.keep(slot))) != 0;
    }

    boolean back(int slot) {
        return make(x -> numberOf(x.back(slot))) != 0;
    }

    int solve(int budget) {
        return make(x -> x.solve(budget));
    }

    int count(int what) {
        return make(x -> x.count(what));
    }

    int clause(int clause, int what) throws NoSuchElementException {
        return make(x -> x.clause(clause, what));
    }

    int assumption(int i) {
        return make(x -> x.assumption(i));
    }

    int model(int variable) {
        return make(x -> x.model(variable));
    }

    int core() {
        return make(LearntReasons::core);
    }

    int variable(int variable, int what) {
        return make(x -> x.variable(variable, what));
    }

    int follows(int i) {
        return make(x -> x.follows(i));
    }

    int line(int line, int what) {
        return make(x -> x.line(line, what));
    }

    int proof() {
        return make(LearntReasons::proof);
    }

    int refute() {
        return make(LearntReasons::refute);
    }

    int closed() {
        return make(LearntReasons::closed);
    }

    int models() {
        return make(LearntReasons::models);
    }

    int fixed(boolean so) {
        return make(x -> x.fixed(so));
    }
}
