import java.nio.charset.StandardCharsets;
import java.util.function.Function;

/** What the tests share: houses made from texts, and answers held against those that are due. */
final class Kit {
    private static int wrong;
    private static int checked;

    private Kit() {
    }

    // ---- texts

    /** Appends a text of any length, 20 bytes a call; the zeros behind its end are left out. */
    static void append(Run x, String text) {
        byte[] bytes = text.getBytes(StandardCharsets.ISO_8859_1);
        for (int at = 0; at < bytes.length; at += 20) {
            x.append(four(bytes, at), four(bytes, at + 4), four(bytes, at + 8), four(bytes, at + 12),
                four(bytes, at + 16));
        }
    }

    private static int four(byte[] bytes, int from) {
        int packed = 0;
        for (int i = from; i < from + 4; i++) {
            packed = packed << 8 | (i < bytes.length ? bytes[i] & 255 : 0);
        }
        return packed;
    }

    static int load(Run x, String text) {
        append(x, text);
        return x.load();
    }

    /** A new object that has read a text, which must have no error. */
    static Run house(String text) {
        Run x = new Run();
        int answer = load(x, text);
        if (answer < 1) {
            due("load of " + text, answer, "the number of monks");
        }
        return x;
    }

    /** So many needs of one word each, named a, b and so on. */
    static String needs(int count) {
        StringBuilder text = new StringBuilder();
        for (int i = 0; i < count; i++) {
            text.append("need ").append((char) ('a' + i)).append(" 1;");
        }
        return text.toString();
    }

    /** So many monks, novices and elders by turns, named a, b and so on. */
    static String monks(int count) {
        StringBuilder text = new StringBuilder();
        for (int i = 0; i < count; i++) {
            text.append(i % 2 == 0 ? "novice " : "elder ").append((char) ('a' + i)).append(';');
        }
        return text.toString();
    }

    static String padded(String text, int length) {
        return text + " ".repeat(length - text.length());
    }

    /** Lets hours go by until TIME is what it shall be. */
    static void passTo(Run x, int time) {
        for (int now = x.count(4); now < time; now += 99) {
            x.pass(Math.min(99, time - now));
        }
    }

    // ---- what is written

    static String writtenText(Run x, int length) {
        StringBuilder text = new StringBuilder();
        for (int i = 0; i < length; i++) {
            text.append((char) x.writtenByte(i));
        }
        throwsIndex("writtenByte behind the end", () -> x.writtenByte(length));
        return text.toString();
    }

    static String monkText(Run x, int monk) {
        return writtenText(x, x.writeMonk(monk));
    }

    static String dayText(Run x) {
        return writtenText(x, x.writeDay());
    }

    // ---- all that there is

    /** All that the getters tell, but for what can be undone: equal for houses in which all is the same. */
    static String everything(Run x) {
        StringBuilder all = new StringBuilder(numbers(x));
        for (int hour = 0; hour < 24; hour++) {
            all.append(x.bell(hour));
        }
        for (int monk = 0; monk < x.count(0); monk++) {
            for (int what = 0; what <= 8; what++) {
                all.append(' ').append(x.monk(monk, what));
            }
            for (int need = 0; need < x.count(1); need++) {
                all.append(x.has(monk, need, false) ? 'k' : '.').append(x.has(monk, need, true) ? 'w' : '.');
            }
        }
        for (int need = 0; need < x.count(1); need++) {
            all.append(' ').append(x.need(need, 0));
        }
        return all.append(" gap ").append(x.gap()).toString();
    }

    private static String numbers(Run x) {
        StringBuilder all = new StringBuilder();
        for (int what = 0; what <= 11; what++) {
            all.append(x.count(what)).append(' ');
        }
        for (int what = 0; what <= 13; what++) {
            all.append(x.account(what)).append(' ');
        }
        return all.toString();
    }

    /** All that an object tells, also what it tells only by being changed; it is used up by that. */
    static String allOf(Run x) {
        StringBuilder all = new StringBuilder(everything(x));
        all.append(" can be undone ").append(x.count(12)).append(" error ").append(x.errorPosition());
        all.append(" written ").append(allWritten(x));
        for (int monk = 0; monk < x.count(0); monk++) {
            all.append(' ').append(monkText(x, monk));
        }
        for (int i = 0; i <= 8; i++) {
            all.append(" undo ").append(answerOf(x, Run::undo)).append(' ').append(fewNumbers(x));
        }
        all.append(" buffer ").append(x.append(0, 0, 0, 0, 0)).append(" load ").append(x.load());
        all.append(' ').append(x.errorPosition()).append(' ').append(fewNumbers(x));
        for (int slot = 0; slot <= 1; slot++) {
            int which = slot;
            all.append(" restore ").append(answerOf(x, y -> y.restore(which))).append(' ').append(fewNumbers(x));
        }
        return all.toString();
    }

    private static String fewNumbers(Run x) {
        StringBuilder few = new StringBuilder();
        for (int what : new int[] {0, 2, 3, 4, 7, 8, 9, 10, 11}) {
            few.append(x.count(what)).append(' ');
        }
        return few.append(x.account(4)).append(' ').append(x.account(6)).toString();
    }

    private static String allWritten(Run x) {
        StringBuilder text = new StringBuilder();
        for (int i = 0; i < 200; i++) {
            int at = i;
            Object letter = answerOf(x, y -> y.writtenByte(at));
            if (letter instanceof String) {
                return text.toString();
            }
            text.append((char) ((Integer) letter).intValue());
        }
        return text.append(" without an end").toString();
    }

    // ---- answers

    static void due(String label, Object got, Object want) {
        checked++;
        if (!got.equals(want)) {
            wrong++;
            System.out.println(label + ": answered " + got + ", due is " + want);
        }
    }

    /** The answer of a call, or the name of what it throws. */
    static Object answerOf(Run x, Function<Run, Object> call) {
        try {
            return call.apply(x);
        } catch (RuntimeException e) {
            return e.getClass().getSimpleName();
        }
    }

    static void throwsIndex(String label, Runnable call) {
        due(label, thrownBy(call), "IndexOutOfBoundsException");
    }

    static void throwsArgument(String label, Runnable call) {
        due(label, thrownBy(call), "IllegalArgumentException");
    }

    static void throwsState(String label, Runnable call) {
        due(label, thrownBy(call), "IllegalStateException");
    }

    /** The very class that is thrown: a class below it, which only the machine throws, is none that is due. */
    static String thrownBy(Runnable call) {
        try {
            call.run();
            return "nothing";
        } catch (RuntimeException e) {
            return e.getClass().getSimpleName();
        }
    }

    /** A call and its answer, or what it throws; behind it all must be as it was, on the very object that it was made on. */
    static void changesNothing(String label, Run x, Function<Run, Object> call, Object due) {
        String before = allOf(x.again());
        Run behind = x.again();
        due(label, answerOf(behind, call), due);
        due(label + ", all behind it", allOf(behind), before);
        due(label + ", objects for it", behind.objectsUsed(), 1);
    }

    static void end() {
        System.out.println(checked + " answers looked at, " + wrong + " wrong");
        if (wrong > 0) {
            System.exit(1);
        }
    }
}
