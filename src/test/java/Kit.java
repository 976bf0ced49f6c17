import java.nio.charset.StandardCharsets;

/** What the tests share: houses made from texts, and answers held against those that are due. */
final class Kit {
    private static int wrong;
    private static int checked;

    private Kit() {
    }

    /** Appends a text of any length, 20 bytes a call; the zeros behind its end are left out. */
    static void append(SilentMonks x, String text) {
        byte[] bytes = text.getBytes(StandardCharsets.ISO_8859_1);
        for (int at = 0; at < bytes.length; at += 20) {
            x.append(four(bytes, at), four(bytes, at + 4), four(bytes, at + 8), four(bytes, at + 12),
                four(bytes, at + 16));
        }
    }

    private static int four(byte[] bytes, int from) {
        int packed = 0;
        for (int i = from; i < from + 4; i++) {
            packed = packed << 8 | (i < bytes.length ? bytes[i] & 255 : 0);
        }
        return packed;
    }

    static int load(SilentMonks x, String text) {
        append(x, text);
        return x.load();
    }

    /** A new object that has read a text, which must have no error. */
    static SilentMonks house(String text) {
        SilentMonks x = new SilentMonks();
        int answer = load(x, text);
        if (answer < 1) {
            due("load of " + text, answer, "the number of monks");
        }
        return x;
    }

    static String writtenText(SilentMonks x, int length) {
        StringBuilder text = new StringBuilder();
        for (int i = 0; i < length; i++) {
            text.append((char) x.writtenByte(i));
        }
        throwsIndex("writtenByte behind the end", () -> x.writtenByte(length));
        return text.toString();
    }

    static String monkText(SilentMonks x, int monk) {
        return writtenText(x, x.writeMonk(monk));
    }

    static String dayText(SilentMonks x) {
        return writtenText(x, x.writeDay());
    }

    /** All that the getters tell, but for what can be undone: equal for houses in which all is the same. */
    static String everything(SilentMonks x) {
        StringBuilder all = new StringBuilder();
        for (int what = 0; what <= 11; what++) {
            all.append(x.count(what)).append(' ');
        }
        for (int what = 0; what <= 13; what++) {
            all.append(x.account(what)).append(' ');
        }
        for (int hour = 0; hour < 24; hour++) {
            all.append(x.bell(hour));
        }
        for (int monk = 0; monk < x.count(0); monk++) {
            for (int what = 0; what <= 8; what++) {
                all.append(' ').append(x.monk(monk, what));
            }
            for (int need = 0; need < x.count(1); need++) {
                all.append(x.has(monk, need, false) ? 'k' : '.').append(x.has(monk, need, true) ? 'w' : '.');
            }
        }
        for (int need = 0; need < x.count(1); need++) {
            all.append(' ').append(x.need(need, 0));
        }
        return all.append(" gap ").append(x.gap()).toString();
    }

    static void due(String label, Object got, Object want) {
        checked++;
        if (!got.equals(want)) {
            wrong++;
            System.out.println(label + ": answered " + got + ", due is " + want);
        }
    }

    static void throwsIndex(String label, Runnable call) {
        due(label, thrownBy(call), "IndexOutOfBoundsException");
    }

    static void throwsArgument(String label, Runnable call) {
        due(label, thrownBy(call), "IllegalArgumentException");
    }

    static void throwsState(String label, Runnable call) {
        due(label, thrownBy(call), "IllegalStateException");
    }

    /** The very class that is thrown: a class below it, which only the machine throws, is none that is due. */
    static String thrownBy(Runnable call) {
        try {
            call.run();
            return "nothing";
        } catch (RuntimeException e) {
            return e.getClass().getSimpleName();
        }
    }

    static void end() {
        System.out.println(checked + " answers looked at, " + wrong + " wrong");
        if (wrong > 0) {
            System.exit(1);
        }
    }
}
