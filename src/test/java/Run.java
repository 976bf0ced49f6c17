import java.util.ArrayList;
import java.util.List;

/**
 * A run of calls on the class. Nothing is promised about an object after its 512th call: so a run counts the calls, and
 * when there were so many, it goes on with a new object, on which all calls that may change something are made again.
 */
final class Run {
    static final int MOST_CALLS = 512;

    private interface Call {
        int on(SilentMonks x);
    }

    private final List<Call> kept = new ArrayList<>();
    private final List<Object> answers = new ArrayList<>();
    private SilentMonks object = new SilentMonks();
    private int calls;
    private int objects = 1;

    /** The same run on an object of its own. */
    Run again() {
        Run run = new Run();
        run.kept.addAll(kept);
        run.answers.addAll(answers);
        run.repeat();
        return run;
    }

    int changingCalls() {
        return kept.size();
    }

    int objectsUsed() {
        return objects;
    }

    private void repeat() {
        if (kept.size() >= MOST_CALLS) {
            throw new IllegalStateException("a test makes too many calls that may change something");
        }
        object = new SilentMonks();
        for (int i = 0; i < kept.size(); i++) {
            Object answer = answerOf(kept.get(i));
            if (!answer.equals(answers.get(i))) {
                Kit.due("call " + i + " of a run, made again", answer, answers.get(i));
            }
        }
        calls = kept.size();
    }

    private Object answerOf(Call call) {
        try {
            return call.on(object);
        } catch (RuntimeException e) {
            return e.getClass().getSimpleName();
        }
    }

    private SilentMonks look() {
        if (calls == MOST_CALLS) {
            repeat();
            objects++;
        }
        calls++;
        return object;
    }

    private int change(Call call) {
        SilentMonks x = look();
        kept.add(call);
        try {
            int answer = call.on(x);
            answers.add(answer);
            return answer;
        } catch (RuntimeException e) {
            answers.add(e.getClass().getSimpleName());
            throw e;
        }
    }

    // ---- the face

    int append(int a, int b, int c, int d, int e) {
        return change(x -> x.append(a, b, c, d, e));
    }

    int load() {
        return change(SilentMonks::load);
    }

    int errorPosition() {
        return look().errorPosition();
    }

    int count(int what) {
        return look().count(what);
    }

    int account(int what) {
        return look().account(what);
    }

    int monk(int monk, int what) {
        return look().monk(monk, what);
    }

    int need(int need, int what) {
        return look().need(need, what);
    }

    boolean has(int monk, int need, boolean isWant) {
        return look().has(monk, need, isWant);
    }

    int bell(int hour) {
        return look().bell(hour);
    }

    int why(int from, int to, int need, int way, int depth) {
        return look().why(from, to, need, way, depth);
    }

    int gap() {
        return look().gap();
    }

    double meanFast() {
        return look().meanFast();
    }

    float breachShare() {
        return look().breachShare();
    }

    int ranked(int place) {
        return look().ranked(place);
    }

    int bestWay(int from, int to, int need) {
        return look().bestWay(from, to, need);
    }

    int speechIn() {
        return look().speechIn();
    }

    int fastIn(int hours) {
        return look().fastIn(hours);
    }

    int freeIn(int monk) {
        return look().freeIn(monk);
    }

    int bestBell() {
        return look().bestBell();
    }

    int bestHearer() {
        return look().bestHearer();
    }

    int want(int monk, int need) {
        return change(x -> x.want(monk, need));
    }

    int tell(int from, int to, int need, int way) {
        return change(x -> x.tell(from, to, need, way));
    }

    int give(int from, int to, int words) {
        return change(x -> x.give(from, to, words));
    }

    int pass(int hours) {
        return change(x -> x.pass(hours));
    }

    int setBell(int hour, int bell) {
        return change(x -> x.setBell(hour, bell));
    }

    int set(int what, int value) {
        return change(x -> x.set(what, value));
    }

    int undo() {
        return change(SilentMonks::undo);
    }

    void save(int slot) {
        change(x -> {
            x.save(slot);
            return 0;
        });
    }

    int restore(int slot) {
        return change(x -> x.restore(slot));
    }

    int writeMonk(int monk) {
        return change(x -> x.writeMonk(monk));
    }

    int writeDay() {
        return change(SilentMonks::writeDay);
    }

    int writtenByte(int index) {
        return look().writtenByte(index);
    }
}
