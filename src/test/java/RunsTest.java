import java.util.ArrayList;
import java.util.List;
import java.util.Random;
import java.util.function.Function;
import java.util.function.Supplier;

/** Runs of calls, the same ones each time, on the class and on the model of it: all answers must be the same. */
public final class RunsTest {

    private static final int RUNS = 250;
    /** A run ends behind so many calls that may change something: with those that look, it stays within 512. */
    private static final int CHANGES = 300;
    private static final int TEXTS = 30000;
    private static final String[] STRANGE = {
        "need", "novice", "brother", "elder", "bell", "speech", "silence", "want", "tell", "give", "wait", "sign", "slip",
        "voice", "paper", "grant", ";", "0", "7", "24", "51", "100", "a", "b", "zz", "abcdefg", "?", "A", "-"};

    private final Random random;
    private Run x = new Run();
    private Model model = new Model();
    private String run;

    private RunsTest(long seed) {
        random = new Random(seed);
        run = "run " + seed;
    }

    public static void main(String[] args) {
        for (int seed = 0; seed < RUNS; seed++) {
            new RunsTest(seed).runOfChanges();
            new RunsTest(seed).runOfWildCalls();
        }
        new RunsTest(4711).brokenTexts();
        Kit.end();
    }

    private int below(int bound) {
        return random.nextInt(bound);
    }

    private String pick(String... words) {
        return words[below(words.length)];
    }

    // ---- texts

    private String name(String letter, int number) {
        return letter.repeat(number % 3 + 1) + (char) ('a' + number);
    }

    private List<String> rightText() {
        List<String> text = new ArrayList<>();
        if (below(2) == 0) {
            add(text, "paper", "" + below(100), ";");
        }
        if (below(2) == 0) {
            add(text, "grant", "" + below(51), ";");
        }
        int needs = 1 + below(8);
        for (int need = 0; need < needs; need++) {
            add(text, "need", name("n", need), "" + (1 + below(20)), ";");
        }
        int monks = 1 + below(below(2) == 0 ? 12 : 4);
        for (int monk = 0; monk < monks; monk++) {
            add(text, pick("novice", "brother", "elder"), name("m", monk));
            for (int need = 0; need < needs; need++) {
                if (below(2) == 0) {
                    add(text, name("n", need));
                }
            }
            add(text, ";");
        }
        for (int bell = below(5); bell > 0; bell--) {
            add(text, "bell", "" + below(24), pick("speech", "silence"), ";");
        }
        for (int deed = below(4); deed > 0; deed--) {
            addDeed(text, needs, monks);
        }
        return text;
    }

    private void addDeed(List<String> text, int needs, int monks) {
        String from = name("m", below(monks));
        String to = name("m", below(monks));
        String need = name("n", below(needs));
        switch (below(4)) {
            case 0: add(text, "want", from, need, ";"); break;
            case 1: add(text, "tell", from, to, need, pick("sign", "slip", "voice"), ";"); break;
            case 2: add(text, "give", from, to, "" + (1 + below(12)), ";"); break;
            default: add(text, "wait", "" + (1 + below(99)), ";"); break;
        }
    }

    private static void add(List<String> text, String... tokens) {
        text.addAll(List.of(tokens));
    }

    private String joined(List<String> tokens) {
        StringBuilder text = new StringBuilder();
        for (String token : tokens) {
            boolean isTight = token.equals(";") || text.length() == 0 || text.charAt(text.length() - 1) == ';';
            text.append(isTight && below(8) > 0 ? "" : " ").append(token);
        }
        return text.length() > 800 ? text.substring(0, 800) : text.toString();
    }

    private void loadBoth(String text) {
        Kit.due(run + " load of " + text, Kit.load(x, text), model.load(text));
        Kit.due(run + " error position of " + text, x.errorPosition(), model.errorAt);
    }

    private void brokenTexts() {
        for (int i = 0; i < TEXTS; i++) {
            if (x.changingCalls() > CHANGES) {
                sameEverything();
                x = new Run();
                model = new Model();
            }
            List<String> tokens = rightText();
            for (int breaks = below(3); breaks > 0 && !tokens.isEmpty(); breaks--) {
                int at = below(tokens.size());
                switch (below(6)) {
                    case 0: tokens.remove(at); break;
                    case 1: tokens.add(at, tokens.get(below(tokens.size()))); break;
                    case 2: tokens.set(at, pick(STRANGE)); break;
                    case 3: tokens.add(at, pick(STRANGE)); break;
                    case 4: tokens.set(at, tokens.get(below(tokens.size()))); break;
                    default: tokens = new ArrayList<>(tokens.subList(0, at)); break;
                }
            }
            loadBoth(joined(tokens));
        }
        sameEverything();
    }

    // ---- changes

    private void runOfChanges() {
        loadBoth(joined(rightText()));
        while (x.changingCalls() < CHANGES) {
            oneChange();
            sameForesight();
            if (below(10) == 0) {
                sameEverything();
            }
        }
        sameEverything();
    }

    private void runOfWildCalls() {
        loadBoth(joined(rightText()));
        while (x.changingCalls() < CHANGES) {
            oneChange();
            wildLooks();
            wildChanges();
        }
        sameEverything();
    }

    private void oneChange() {
        int monks = model.count(0);
        int from = below(monks);
        int to = below(monks);
        int need = below(model.count(1));
        switch (below(14)) {
            case 0: case 1: Kit.due(run + " want", x.want(from, need), model.want(from, need)); break;
            case 2: case 3: case 4: case 5:
                if (from != to) {
                    int way = below(3);
                    Kit.due(run + " tell", x.tell(from, to, need, way), model.tell(from, to, need, way));
                }
                break;
            case 6: case 7:
                if (from != to) {
                    int words = 1 + below(12);
                    Kit.due(run + " give", x.give(from, to, words), model.give(from, to, words));
                }
                break;
            case 8:
                int hours = 1 + below(below(2) == 0 ? 99 : 9);
                Kit.due(run + " pass", x.pass(hours), model.pass(hours));
                break;
            case 9:
                int hour = below(24);
                int bell = below(3);
                Kit.due(run + " setBell", x.setBell(hour, bell), model.setBell(hour, bell));
                break;
            case 10:
                int value = below(51);
                Kit.due(run + " set", x.set(2 + value % 2, value), model.set(2 + value % 2, value));
                break;
            case 11: undoBoth(); break;
            default: rareChange(); break;
        }
    }

    private void undoBoth() {
        if (model.undoable() == 0) {
            Kit.throwsState(run + " undo", () -> x.undo());
        } else {
            Kit.due(run + " undo", x.undo(), model.undo());
        }
    }

    private void rareChange() {
        int slot = below(2);
        switch (below(12)) {
            case 0: loadBoth(joined(rightText())); break;
            case 1: case 2: case 3:
                x.save(slot);
                model.save(slot);
                break;
            case 4: case 5:
                int time = model.restore(slot);
                if (time < 0) {
                    Kit.throwsState(run + " restore", () -> x.restore(slot));
                } else {
                    Kit.due(run + " restore", x.restore(slot), time);
                }
                break;
            case 6: case 7:
                for (int i = below(10); i > 0; i--) {
                    undoBoth();
                }
                break;
            default:
                for (int i = below(20); i > 0; i--) {
                    Kit.due(run + " pass", x.pass(99), model.pass(99));
                }
                break;
        }
    }

    // ---- what both answer

    private void sameCounts() {
        for (int what = 0; what <= 12; what++) {
            Kit.due(run + " count " + what, x.count(what), model.count(what));
        }
    }

    private void sameEverything() {
        int monks = model.count(0);
        int needs = model.count(1);
        Run texts = x.again();
        sameCounts();
        for (int what = 0; what <= 13; what++) {
            Kit.due(run + " account " + what, x.account(what), model.now.accounts[what]);
        }
        for (int monk = 0; monk < monks; monk++) {
            for (int what = 0; what <= 8; what++) {
                Kit.due(run + " monk " + what, x.monk(monk, what), model.monk(monk, what));
            }
            Kit.due(run + " writeMonk", Kit.monkText(texts, monk), model.monkText(monk));
            Kit.due(run + " freeIn", x.freeIn(monk), model.freeIn(monk));
            Kit.due(run + " ranked", x.ranked(monk), model.ranked(monk));
        }
        for (int need = 0; need < needs; need++) {
            for (int what = 0; what <= 4; what++) {
                Kit.due(run + " need " + what, x.need(need, what), model.need(need, what));
            }
        }
        Kit.due(run + " writeDay", Kit.dayText(texts), model.dayText());
        Kit.due(run + " meanFast", x.meanFast(), (double) model.count(10) / (double) monks);
        int[] accounts = model.now.accounts;
        int spoken = accounts[4] + accounts[5] + accounts[6];
        Kit.due(run + " breachShare", x.breachShare(), spoken == 0 ? 0.0f : (float) accounts[6] / (float) spoken);
    }

    private void sameForesight() {
        int monks = model.count(0);
        int from = below(monks);
        int to = below(monks);
        int need = below(model.count(1));
        int way = below(3);
        int hours = below(below(2) == 0 ? 1000 : 60);
        Kit.due(run + " gap", x.gap(), 0);
        Kit.due(run + " undoable", x.count(12), model.undoable());
        Kit.due(run + " speechIn", x.speechIn(), model.speechIn());
        Kit.due(run + " fastIn", x.fastIn(hours), model.fastIn(hours));
        Kit.due(run + " freeIn", x.freeIn(from), model.freeIn(from));
        Kit.due(run + " bestBell", x.bestBell(), model.bestBell());
        Kit.due(run + " bestHearer", x.bestHearer(), model.bestHearer());
        if (from != to) {
            Kit.due(run + " bestWay", x.bestWay(from, to, need), model.bestWay(from, to, need));
            for (int depth = 0; depth <= 2; depth++) {
                Kit.due(run + " why " + depth, x.why(from, to, need, way, depth), model.why(from, to, need, way, depth));
            }
        }
    }

    // ---- wrong arguments

    private int wild(int bound) {
        switch (below(6)) {
            case 0: return random.nextInt();
            case 1: return below(2) == 0 ? Integer.MIN_VALUE : Integer.MAX_VALUE;
            case 2: return -1;
            case 3: return bound;
            default: return below(bound);
        }
    }

    private static boolean isIn(int value, int least, int most) {
        return value >= least && value <= most;
    }

    /** What is due by the document: the index first, then the argument; - if the call is a right one. */
    private static String thrown(boolean isIndexRight, boolean isArgumentRight) {
        return !isIndexRight ? "IndexOutOfBoundsException" : !isArgumentRight ? "IllegalArgumentException" : "nothing";
    }

    private void wildLooks() {
        int from = wild(model.count(0));
        int to = wild(model.count(0));
        int need = wild(model.count(1));
        int number = wild(4);
        int depth = wild(3);
        int hour = wild(24);
        boolean isFrom = isIn(from, 0, model.count(0) - 1);
        boolean isTo = isIn(to, 0, model.count(0) - 1);
        boolean isNeed = isIn(need, 0, model.count(1) - 1);
        boolean isTwo = from != to;
        wildDue("count", () -> x.count(number * 4), thrown(true, isIn(number * 4, 0, 12)));
        wildDue("account", () -> x.account(number * 4), thrown(true, isIn(number * 4, 0, 13)));
        wildDue("monk", () -> x.monk(from, number * 3), thrown(isFrom, isIn(number * 3, 0, 8)));
        wildDue("need", () -> x.need(need, number * 2), thrown(isNeed, isIn(number * 2, 0, 4)));
        wildDue("has", () -> x.has(from, need, true), thrown(isFrom && isNeed, true));
        wildDue("bell", () -> x.bell(hour), thrown(isIn(hour, 0, 23), true));
        wildDue("why", () -> x.why(from, to, need, number, depth),
            thrown(isFrom && isTo && isNeed, isTwo && isIn(number, 0, 2) && isIn(depth, 0, 2)));
        wildDue("bestWay", () -> x.bestWay(from, to, need), thrown(isFrom && isTo && isNeed, isTwo));
        wildDue("fastIn", () -> x.fastIn(hour * 40), thrown(true, isIn(hour * 40, 0, 999)));
        wildDue("freeIn", () -> x.freeIn(from), thrown(isFrom, true));
        wildDue("writeMonk", () -> x.writeMonk(from), thrown(isFrom, true));
        Kit.due(run + " ranked", x.ranked(from), model.ranked(from));
        sameCounts();
    }

    private void wildDue(String label, Runnable call, String due) {
        Kit.due(run + " wild " + label, Kit.thrownBy(call), due);
    }

    private void wildChanges() {
        int from = wild(model.count(0));
        int to = wild(model.count(0));
        int need = wild(model.count(1));
        int number = wild(4);
        int bell = wild(3);
        int hour = wild(24);
        boolean isFrom = isIn(from, 0, model.count(0) - 1);
        boolean isTo = isIn(to, 0, model.count(0) - 1);
        boolean isNeed = isIn(need, 0, model.count(1) - 1);
        boolean isTwo = from != to;
        wildChange("want", thrown(isFrom && isNeed, true), y -> y.want(from, need), () -> model.want(from, need));
        wildChange("tell", thrown(isFrom && isTo && isNeed, isTwo && isIn(number, 0, 2)),
            y -> y.tell(from, to, need, number), () -> model.tell(from, to, need, number));
        wildChange("give", thrown(isFrom && isTo, isTwo && isIn(number * 20, 1, 50)),
            y -> y.give(from, to, number * 20), () -> model.give(from, to, number * 20));
        wildChange("pass", thrown(true, isIn(hour * 5, 1, 99)), y -> y.pass(hour * 5), () -> model.pass(hour * 5));
        wildChange("setBell", thrown(isIn(hour, 0, 23), isIn(bell, 0, 2)),
            y -> y.setBell(hour, bell), () -> model.setBell(hour, bell));
        wildChange("set", thrown(true, number == 2 && isIn(hour * 3, 0, 99) || number == 3 && isIn(hour * 3, 0, 50)),
            y -> y.set(number, hour * 3), () -> model.set(number, hour * 3));
        wildChange("save", thrown(isIn(number, 0, 1), true), y -> {
            y.save(number);
            return 0;
        }, () -> {
            model.save(number);
            return 0;
        });
        if (!isIn(number, 0, 1)) {
            wildChange("restore", thrown(false, true), y -> y.restore(number), () -> 0);
        }
    }

    /** A call with any arguments: if it is a right one, the model makes it, too. */
    private void wildChange(String label, String due, Function<Run, Object> call, Supplier<Object> modelCall) {
        Object answer = due.equals("nothing") ? modelCall.get() : due;
        Kit.due(run + " wild " + label, Kit.answerOf(x, call), answer);
        sameCounts();
    }
}
