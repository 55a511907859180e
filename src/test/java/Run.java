import java.util.ArrayList;
import java.util.List;
import java.util.function.ToIntFunction;

/**
 * A run of calls on one object. The document promises nothing of an object's 513th call, so a run refuses it; and it
 * keeps its calls, so that the same run can be made again on a new object when more is to be asked.
 */
final class Run {
    static final int MOST_CALLS = 512;

    private final TrainYard yard = new TrainYard();
    private final List<ToIntFunction<TrainYard>> calls = new ArrayList<>();

    /** The same calls on a new object, those that throw too. */
    Run again() {
        Run other = new Run();
        for (ToIntFunction<TrainYard> call : calls) {
            try {
                other.call(call);
            } catch (RuntimeException e) {
                // It threw in this run too, where the test has looked at it.
            }
        }
        return other;
    }

    int callsLeft() {
        return MOST_CALLS - calls.size();
    }

    int call(ToIntFunction<TrainYard> call) {
        if (callsLeft() <= 0) {
            throw new AssertionError("a test makes more than 512 calls on one object");
        }
        calls.add(call);
        return call.applyAsInt(yard);
    }

    int length(int n) {
        return call(y -> y.length(n));
    }

    int make(int register, int references, int numbers) {
        return call(y -> y.make(register, references, numbers));
    }

    int copy(int to, int from) {
        return call(y -> y.copy(to, from));
    }

    int drop(int register) {
        return call(y -> y.drop(register));
    }

    int set(int register, int i, int of) {
        return call(y -> y.set(register, i, of));
    }

    int get(int to, int register, int i) {
        return call(y -> y.get(to, register, i));
    }

    int put(int register, int i, int v) {
        return call(y -> y.put(register, i, v));
    }

    int number(int register, int i) {
        return call(y -> y.number(register, i));
    }

    int step() {
        return call(TrainYard::step);
    }

    int collect(int n) {
        return call(y -> y.collect(n));
    }

    int thing(int register, int what) {
        return call(y -> y.thing(register, what));
    }

    int label(int register, int i) {
        return call(y -> y.label(register, i));
    }

    int train(int i, int what) {
        return call(y -> y.train(i, what));
    }

    int car(int i, int k) {
        return call(y -> y.car(i, k));
    }

    int about(int car, int what) {
        return call(y -> y.about(car, what));
    }

    int remembered(int car, int k) {
        return call(y -> y.remembered(car, k));
    }

    int word(int place) {
        return call(y -> y.word(place));
    }

    int reached() {
        return call(TrainYard::reached);
    }

    int told(int what) {
        return call(y -> y.told(what));
    }
}
