import java.util.function.Function;

/**
 * The promises 1 to 33 at their edges: for each call the first and the last argument that it takes and those beyond
 * them, what is empty and what is full, midnight, ties; and behind all that is thrown or refused or only looks, that
 * nothing is another one.
 */
public final class EdgesTest {

    private static final String INDEX = "IndexOutOfBoundsException";
    private static final String ARGUMENT = "IllegalArgumentException";
    private static final String STATE = "IllegalStateException";
    private static final int[] FAR = {Integer.MIN_VALUE, Integer.MIN_VALUE + 1, -100, 1000000, Integer.MAX_VALUE - 1, Integer.MAX_VALUE};

    /**
     * Four monks, 0 the novice nil, 1 the brother bo, 2 the elder el, 3 the elder old, and two needs, 0 salt, 1 bread;
     * with everything that a call could spoil: six changes, one thing saved, a text, an error, a written text.
     */
    private static final Run RICH = rich();

    public static void main(String[] args) {
        richHouse();
        promise01NewObject();
        promise02Append();
        promise02EveryByteCounts();
        promise03Load();
        promise03LoadBehindLoad();
        promise04ErrorPosition();
        promises05And06CountAndAccount();
        promise07Monk();
        promise08Need();
        promise09Has();
        promise10Bell();
        promise11Why();
        promise11WhyByVoice();
        promise11WhyAtMidnight();
        speechNowOrNot();
        promise12Gap();
        promise13MeanFast();
        promise14BreachShare();
        promise15Ranked();
        promise16BestWay();
        promise17SpeechIn();
        promise18FastIn();
        promise19FreeIn();
        promise20BestBell();
        promise21BestHearer();
        promise22Want();
        promise23Tell();
        promise24Give();
        promise25Pass();
        promise26SetBell();
        promise27Set();
        promise28Undo();
        promises29And30SaveAndRestore();
        promise30RestoreEverything();
        promise31WriteMonk();
        promise32WriteDay();
        promise33WrittenByte();
        Kit.end();
    }

    private static Run rich() {
        Run x = Kit.house("paper 3;grant 12;need salt 4;need bread 20;novice nil salt;brother bo salt bread;elder el;"
            + "elder old bread;bell 6 speech;bell 8 silence;want bo bread;want old salt;");
        x.save(0);
        x.give(2, 1, 5);
        x.tell(0, 1, 0, 2);
        x.pass(26);
        x.tell(1, 0, 1, 2);
        x.give(2, 3, 7);
        Kit.load(x, "need q 0;");
        x.writeDay();
        Kit.append(x, "need a 2;brother c;brother d a;tell d c a slip;");
        return x;
    }

    private static void throwsAll(String label, String due, Function<Run, Object> call) {
        Kit.changesNothing(label, RICH, call, due);
    }

    private static void looks(String label, Object due, Function<Run, Object> call) {
        Kit.changesNothing(label, RICH, call, due);
    }

    /** The house itself, so that what the others build on is known. */
    private static void richHouse() {
        Run x = RICH.again();
        int[] counts = {4, 2, 3, 12, 26, 0, 2, 2, 2, 7, 5, 5, 6};
        for (int what = 0; what < counts.length; what++) {
            Kit.due("rich count " + what, x.count(what), counts[what]);
        }
        Kit.due("rich error", x.errorPosition(), 7);
        Kit.due("rich text", x.append(0, 0, 0, 0, 0), 47);
        Kit.due("rich written text", Kit.writtenText(x, 27), "......ss................/26");
    }

    // ---- setup

    private static void promise01NewObject() {
        Run x = new Run();
        int[] counts = {1, 1, 20, 10, 0, 0, 0, 0, 0, 0, 0, 0, 0};
        for (int what = 0; what <= 12; what++) {
            Kit.due("1 count " + what, x.count(what), counts[what]);
        }
        int[] monk = {2, 0, 0, 0, 0, 0, 0, 0, 1};
        for (int what = 0; what <= 8; what++) {
            Kit.due("1 monk " + what, x.monk(0, what), monk[what]);
        }
        int[] need = {1, 0, 0, 1, 1};
        for (int what = 0; what <= 4; what++) {
            Kit.due("1 need " + what, x.need(0, what), need[what]);
        }
        for (int what = 0; what <= 13; what++) {
            Kit.due("1 account " + what, x.account(what), 0);
        }
        Kit.due("1 length of the buffer", x.append(0, 0, 0, 0, 0), 0);
        Kit.due("1 error", x.errorPosition(), SilentMonks.NONE);
        Kit.changesNothing("1 written text", x, y -> y.writtenByte(0), INDEX);
        Kit.changesNothing("1 slot 0", x, y -> y.restore(0), STATE);
        Kit.changesNothing("1 slot 1", x, y -> y.restore(1), STATE);
        Kit.changesNothing("1 undo", x, y -> y.undo(), STATE);
        Kit.due("1 the monk", Kit.monkText(x, 0), "b:/");
        Run twice = new Run();
        twice.want(0, 0);
        Kit.due("1 the need", Kit.monkText(twice, 0), "b:/a");
    }

    /** The length that would be counts each byte that is not 0, of whatever value and wherever it stands. */
    private static void promise02EveryByteCounts() {
        Run full = new Run();
        Kit.append(full, Kit.padded("need a 1;elder b;", 800));
        Run one = new Run();
        Kit.append(one, Kit.padded("need a 1;elder b;", 799));
        for (int place = 0; place < 20; place++) {
            for (int bit = 0; bit < 8; bit++) {
                byte[] bytes = new byte[20];
                bytes[place] = (byte) (1 << bit);
                Kit.due("2 byte " + (1 << bit) + " at " + place, Kit.answerOf(full, y -> append(y, bytes)), STATE);
                bytes[(place + 7) % 20] = (byte) (1 << bit);
                Kit.due("2 two of them", Kit.answerOf(one, y -> append(y, bytes)), STATE);
                full = full.again();
                one = one.again();
                if (full.changingCalls() > 400) {
                    full = new Run();
                    Kit.append(full, Kit.padded("need a 1;elder b;", 800));
                    one = new Run();
                    Kit.append(one, Kit.padded("need a 1;elder b;", 799));
                }
            }
        }
        Kit.due("2 nothing was added", "" + full.append(0, 0, 0, 0, 0) + " " + one.append(0, 0, 0, 0, 0), "800 799");
        Kit.due("2 the text is as it was", full.load() + one.load(), 2);
    }

    private static void promise02Append() {
        String text = "need abcdef 00000012;elder gh;";
        for (int zero = 0; zero < 20; zero++) {
            Run x = new Run();
            byte[] bytes = new byte[20];
            for (int i = 0; i < 19; i++) {
                bytes[i < zero ? i : i + 1] = (byte) text.charAt(i);
            }
            Kit.due("2 a zero at " + zero, append(x, bytes), 19);
            Kit.append(x, text.substring(19));
            Kit.due("2 read", x.load(), 1);
            Kit.due("2 words", x.need(0, 0), 12);
            Kit.due("2 name", Kit.monkText(x, 0), "gh:/");
        }
        for (int count = 0; count <= 20; count++) {
            byte[] bytes = new byte[20];
            for (int i = 0; i < count; i++) {
                bytes[19 - i] = ' ';
            }
            Run x = new Run();
            Kit.append(x, Kit.padded("need a 1;elder b;", 800 - count));
            Kit.due("2 to 800 by " + count, append(x, bytes), 800);
            Kit.due("2 read to its end", x.load(), 1);
            if (count > 0) {
                Run y = new Run();
                Kit.append(y, Kit.padded("need a 1;elder b;", 801 - count));
                Kit.changesNothing("2 to 801 by " + count, y, z -> append(z, bytes), STATE);
                Kit.due("2 the length behind it", y.append(0, 0, 0, 0, 0), 801 - count);
            }
        }
        Run full = new Run();
        Kit.append(full, Kit.padded("need a 1;elder b", 799) + ";");
        Kit.changesNothing("2 one byte at 800", full, y -> y.append(0, 0, 0x3b0000, 0, 0), STATE);
        Kit.changesNothing("2 twenty bytes at 800", full, y -> y.append(-1, -1, -1, -1, -1), STATE);
        Kit.due("2 no byte at 800", full.append(0, 0, 0, 0, 0), 800);
        Kit.due("2 the last byte is read", full.load(), 1);
        for (int value = 1; value <= 255; value++) {
            Run x = new Run();
            Kit.due("2 a byte " + value, x.append(value, value << 8, value << 16, value << 24, 0), 4);
        }
    }

    private static int append(Run x, byte[] bytes) {
        int[] four = new int[5];
        for (int i = 0; i < 20; i++) {
            four[i / 4] = four[i / 4] << 8 | bytes[i] & 255;
        }
        return x.append(four[0], four[1], four[2], four[3], four[4]);
    }

    private static void promise03Load() {
        Run empty = new Run();
        Kit.due("3 the empty text", empty.load(), SilentMonks.SYNTAX_ERROR);
        Kit.due("3 its end", empty.errorPosition(), 0);
        String before = Kit.everything(RICH.again());
        String[] wrong = {"", "?", "need a 1;", "paper 100;", "grant 51;", "paper 1;grant 2;need q 3;elder r;elder s;bell 1 speech;"
            + "give r s 2;tell s r q voice;want r q;wait 30;wait 0;", "need q 3;elder r;elder s;want r q;want r q;"};
        for (String text : wrong) {
            Run x = RICH.again();
            x.load();
            x.undo();
            Kit.due("3 an error in " + text, Kit.load(x, text) < 0, true);
            Kit.due("3 all stays, " + text, Kit.everything(x), before);
            Kit.due("3 what can be undone stays, " + text, x.count(12), 6);
            Kit.due("3 what is written stays, " + text, Kit.writtenText(x, 27), "......ss................/26");
            Kit.due("3 what is saved stays, " + text, x.restore(0), 0);
            Kit.due("3 the buffer is empty, " + text, x.append(0, 0, 0, 0, 0), 0);
        }
        Run x = RICH.again();
        Kit.due("3 the monks", x.load(), 2);
        Kit.due("3 the buffer is empty", x.append(0, 0, 0, 0, 0), 0);
        Kit.due("3 all is as by the text", Kit.everything(x), Kit.everything(Kit.house(
            "need a 2;brother c;brother d a;tell d c a slip;")));
        Kit.due("3 a change", x.count(12), 7);
        Kit.due("3 what is written stays", Kit.writtenText(x, 27), "......ss................/26");
        Kit.due("3 an empty text behind a right one", x.load(), SilentMonks.SYNTAX_ERROR);
        Kit.due("3 it changes nothing", x.count(12) + x.count(1), 8);
        Kit.due("3 undone", x.undo(), 6);
        Kit.due("3 all as before", Kit.everything(x), before);
        deedsOfTexts();
    }

    /** "with TIME and all accounts 0 ahead of its deeds", and the deeds as the methods. */
    private static void deedsOfTexts() {
        String house = "paper 9;grant 20;need a 7;need b 13;novice n a b;brother o a;elder p a;elder q b;bell 5 speech;bell 6 silence;";
        Run text = RICH.again();
        text.load();
        Kit.load(text, house + "want n a;want p b;tell n o a sign;tell n p a slip;give p n 9;give q n 4;tell n q b voice;"
            + "tell o n a voice;wait 99;wait 30;tell q p b slip;");
        Run calls = Kit.house(house);
        calls.want(0, 0);
        calls.want(2, 1);
        calls.tell(0, 1, 0, 0);
        calls.tell(0, 2, 0, 1);
        calls.give(2, 0, 9);
        calls.give(3, 0, 4);
        calls.tell(0, 3, 1, 2);
        calls.tell(1, 0, 0, 2);
        calls.pass(99);
        calls.pass(30);
        calls.tell(3, 2, 1, 1);
        Kit.due("3 deeds as methods", Kit.everything(text), Kit.everything(calls));
        Kit.due("3 TIME of the text alone", text.count(4), 129);
    }

    /** What an earlier text told, also one with an error, is not in the house of a later one. */
    private static void promise03LoadBehindLoad() {
        String large = "paper 1;grant 50;need q 20;need r 3;novice s q;brother t r;elder u q r;elder v;bell 2 speech;bell 3 silence;"
            + "want s q;want t q;want u r;want v q;give u s 30;give v t 2;tell u v q voice;tell t s q voice;tell s u r voice;wait 2;"
            + "tell v s q voice;wait 23;tell u s r voice;give v s 5;";
        String[] small = {"need a 1;elder b;", "need a 5;novice b;elder c;", "need a 1;novice b;novice c;novice d;novice e;elder f;",
            "need a 5;elder b;elder c;elder d;tell b c a voice;give c d 1;", "need a 5;elder b;elder c;give c b 1;tell b c a voice;wait 30;"};
        for (String text : small) {
            Run due = Kit.house(text);
            String all = Kit.everything(due);
            Run x = Kit.house(large);
            Kit.load(x, text);
            Kit.due("3 behind a larger one", Kit.everything(x), all);
            Kit.due("3 gap behind it", x.gap(), 0);
            Run y = new Run();
            Kit.due("3 an error in the larger one", Kit.load(y, large + "wait 0;"), SilentMonks.VALUE_ERROR);
            Kit.load(y, text);
            Kit.due("3 behind one with an error", Kit.everything(y), all);
            y.pass(99);
            due.pass(99);
            Kit.due("3 and days later", Kit.everything(y), Kit.everything(due));
        }
    }

    private static void promise04ErrorPosition() {
        Run x = new Run();
        Kit.due("4 no call", x.errorPosition(), SilentMonks.NONE);
        x.append(0x3f000000, 0, 0, 0, 0);
        Kit.due("4 no call of load", x.errorPosition(), SilentMonks.NONE);
        x.load();
        Kit.due("4 the first byte", x.errorPosition(), 0);
        x.append(0x3f000000, 0, 0, 0, 0);
        Kit.due("4 append leaves it", x.errorPosition(), 0);
        x.load();
        Kit.append(x, Kit.padded("need a 1;elder b;", 799) + "?");
        x.load();
        Kit.due("4 the last byte", x.errorPosition(), 799);
        x.setBell(1, 1);
        x.save(0);
        x.restore(0);
        x.undo();
        x.writeDay();
        Kit.due("4 other calls leave it", x.errorPosition(), 799);
        Kit.load(x, Kit.padded("need a 1;elder b", 800));
        Kit.due("4 the end", x.errorPosition(), 800);
        Kit.load(x, Kit.padded("need a 1;elder b;", 800));
        Kit.due("4 no error", x.errorPosition(), SilentMonks.NONE);
        looks("4 a look", 7, y -> y.errorPosition());
    }

    // ---- what there is

    private static void promises05And06CountAndAccount() {
        int[] counts = {4, 2, 3, 12, 26, 0, 2, 2, 2, 7, 5, 5, 6};
        for (int what = 0; what < counts.length; what++) {
            int which = what;
            looks("5 count " + what, counts[what], y -> y.count(which));
        }
        int[] accounts = {0, 0, 2, 0, 0, 0, 24, 2, 5, 0, 12, 5, 0, 1};
        for (int what = 0; what < accounts.length; what++) {
            int which = what;
            looks("6 account " + what, accounts[what], y -> y.account(which));
        }
        for (int what : new int[] {-1, 13, 14}) {
            throwsAll("5 what " + what, ARGUMENT, y -> y.count(what == 14 ? 99 : what));
            throwsAll("6 what " + what, ARGUMENT, y -> y.account(what == 13 ? -13 : what));
        }
        for (int what : FAR) {
            throwsAll("5 what " + what, ARGUMENT, y -> y.count(what));
            throwsAll("6 what " + what, ARGUMENT, y -> y.account(what));
        }
        Run x = Kit.house("need a 1;elder b;bell 0 speech;bell 0 silence;bell 23 speech;bell 23 speech;");
        Kit.due("5 bells told again", x.count(6), 2);
        Kit.due("5 hours from 23 to 0", x.count(7), 1);
        Kit.due("5 none at 0", x.count(5), 0);
        x.setBell(0, 0);
        Kit.due("5 speech at 0 by the bell at 23", x.count(5), 1);
        Kit.due("5 all hours", x.count(7), 24);
    }

    private static void promise07Monk() {
        int[][] due = {
            {0, 0, 1, 0, 0, 2, 0, 1, 3},
            {1, 0, 4, 0, 1, 2, 1, 1, 2},
            {2, 0, 0, 7, 0, 0, 0, 3, 2},
            {2, 7, 0, 0, 0, 1, 1, 2, 3}};
        for (int monk = 0; monk <= 3; monk++) {
            for (int what = 0; what <= 8; what++) {
                int who = monk;
                int which = what;
                looks("7 monk " + monk + " what " + what, due[monk][what], y -> y.monk(who, which));
            }
            int who = monk;
            throwsAll("7 what -1 of " + monk, ARGUMENT, y -> y.monk(who, -1));
            throwsAll("7 what 9 of " + monk, ARGUMENT, y -> y.monk(who, 9));
        }
        for (int monk : new int[] {-1, 4, 11, 12}) {
            throwsAll("7 monk " + monk, INDEX, y -> y.monk(monk, 8));
            throwsAll("7 monk and what " + monk, INDEX, y -> y.monk(monk, 9));
        }
        for (int far : FAR) {
            throwsAll("7 monk " + far, INDEX, y -> y.monk(far, 0));
            throwsAll("7 what " + far, ARGUMENT, y -> y.monk(3, far));
            throwsAll("7 both " + far, INDEX, y -> y.monk(far, far));
        }
        Kit.due("7 others of the only one", new Run().monk(0, 7), 0);
        Kit.due("7 others, all with the same signs", Kit.house("need a 1;" + "elder x a;elder y a;elder z a;").monk(1, 7), 2);
        Kit.due("7 others, all without", Kit.house(Kit.needs(8) + Kit.monks(12)).monk(11, 7), 11);
        for (int letters = 1; letters <= 6; letters++) {
            Kit.due("7 letters", Kit.house("need a 1;elder " + "zzzzzz".substring(0, letters) + ";").monk(0, 8), letters);
        }
        for (int wants = 0; wants <= 8; wants++) {
            Run x = Kit.house(Kit.needs(8) + "elder m" + " a b c d e f g h".substring(0, 2 * wants) + ";");
            Kit.due("7 knows", x.monk(0, 5), wants);
            for (int need = 0; need < wants; need++) {
                x.want(0, 7 - need);
            }
            Kit.due("7 wants", x.monk(0, 6), wants);
        }
    }

    private static void promise08Need() {
        int[][] due = {{4, 2, 1, 1, 1}, {20, 3, 1, 2, 4}};
        for (int need = 0; need <= 1; need++) {
            int which = need;
            for (int what = 0; what <= 4; what++) {
                int number = what;
                looks("8 need " + need + " what " + what, due[need][what], y -> y.need(which, number));
            }
            throwsAll("8 what -1 of " + need, ARGUMENT, y -> y.need(which, -1));
            throwsAll("8 what 5 of " + need, ARGUMENT, y -> y.need(which, 5));
        }
        for (int need : new int[] {-1, 2, 7, 8}) {
            throwsAll("8 need " + need, INDEX, y -> y.need(need, 4));
            throwsAll("8 need and what " + need, INDEX, y -> y.need(need, 5));
        }
        for (int far : FAR) {
            throwsAll("8 need " + far, INDEX, y -> y.need(far, 0));
            throwsAll("8 what " + far, ARGUMENT, y -> y.need(1, far));
            throwsAll("8 both " + far, INDEX, y -> y.need(far, far));
        }
        for (int words = 1; words <= 20; words++) {
            Run x = Kit.house("need a " + words + ";elder b;novice c;bell 3 speech;");
            Kit.due("8 pages of " + words, x.need(0, 3), words <= 10 ? 1 : 2);
            Kit.due("8 days of " + words, x.need(0, 4), words <= 5 ? 1 : words <= 10 ? 2 : words <= 15 ? 3 : 4);
        }
    }

    private static void promise09Has() {
        boolean[][] knows = {{true, true}, {true, true}, {false, false}, {false, true}};
        for (int monk = 0; monk <= 3; monk++) {
            for (int need = 0; need <= 1; need++) {
                int who = monk;
                int which = need;
                looks("9 knows " + monk + need, knows[monk][need], y -> y.has(who, which, false));
                looks("9 wants " + monk + need, monk == 1 && need == 1 || monk == 3 && need == 0, y -> y.has(who, which, true));
            }
        }
        for (int wrong : new int[] {-1, 4, 12, Integer.MIN_VALUE, Integer.MAX_VALUE}) {
            throwsAll("9 monk " + wrong, INDEX, y -> y.has(wrong, 0, true));
            throwsAll("9 need " + wrong, INDEX, y -> y.has(0, wrong, false));
        }
        throwsAll("9 need 2", INDEX, y -> y.has(3, 2, true));
        throwsAll("9 need 32", INDEX, y -> y.has(3, 32, false));
    }

    private static void promise10Bell() {
        for (int hour = 0; hour <= 23; hour++) {
            int which = hour;
            looks("10 hour " + hour, hour == 6 ? 2 : hour == 8 ? 1 : 0, y -> y.bell(which));
        }
        for (int hour : new int[] {-1, -24, 24, 30, 32, Integer.MIN_VALUE, Integer.MAX_VALUE}) {
            throwsAll("10 hour " + hour, INDEX, y -> y.bell(hour));
        }
    }

    // ---- reasons, measures

    private static void promise11Why() {
        int[][] due = {
            {0, 1, 0, 0, 0, 0, -1}, {2, 1, 0, 0, 2, 2, -1}, {1, 2, 0, 0, 3, 2, -1}, {2, 3, 1, 0, 2, 2, -1},
            {0, 1, 0, 1, 0, 2, -1}, {0, 1, 1, 1, 4, 3, 4}, {1, 0, 1, 1, 0, 2, -1}, {2, 1, 0, 1, 0, 1, -1},
            {0, 1, 0, 2, 23, 4, 1}, {3, 1, 0, 2, 21, 7, 3}, {3, 1, 1, 2, 22, 7, 6}, {2, 0, 1, 2, 23, 20, 8}};
        for (int[] row : due) {
            for (int depth = 0; depth <= 2; depth++) {
                int deep = depth;
                looks("11 " + row[0] + row[1] + row[2] + row[3] + " at " + depth, row[4 + depth],
                    y -> y.why(row[0], row[1], row[2], row[3], deep));
            }
        }
        for (int wrong : new int[] {-1, 4, 12, Integer.MIN_VALUE, Integer.MAX_VALUE}) {
            throwsAll("11 from " + wrong, INDEX, y -> y.why(wrong, 0, 0, 0, 0));
            throwsAll("11 to " + wrong, INDEX, y -> y.why(0, wrong, 0, 0, 0));
            throwsAll("11 both monks " + wrong, INDEX, y -> y.why(wrong, wrong, 0, 0, 0));
            throwsAll("11 need " + wrong, INDEX, y -> y.why(0, 1, wrong, 0, 0));
            throwsAll("11 way " + wrong, ARGUMENT, y -> y.why(0, 1, 0, wrong, 0));
            throwsAll("11 depth " + wrong, ARGUMENT, y -> y.why(0, 1, 0, 0, wrong));
            throwsAll("11 the index first " + wrong, INDEX, y -> y.why(3, 3, wrong, wrong, wrong));
        }
        throwsAll("11 need 2", INDEX, y -> y.why(0, 1, 2, 0, 0));
        throwsAll("11 way 3", ARGUMENT, y -> y.why(0, 1, 0, 3, 0));
        throwsAll("11 depth 3", ARGUMENT, y -> y.why(0, 1, 0, 2, 3));
        for (int monk = 0; monk <= 3; monk++) {
            int who = monk;
            throwsAll("11 the same, " + monk, ARGUMENT, y -> y.why(who, who, 0, 0, 0));
        }
    }

    /** By leave, in part by leave and not at all by leave: at each number of words and each leave around it. */
    private static void promise11WhyByVoice() {
        for (int words = 1; words <= 20; words++) {
            for (int leave = 0; leave <= words + 1; leave++) {
                for (int rank = 1; rank <= 2; rank++) {
                    Run x = Kit.house("grant 50;need a " + words + ";" + (rank == 2 ? "elder" : "brother") + " b;elder c;"
                        + (leave == 0 ? "" : "give c b " + leave + ";"));
                    int days = (words - leave + 4) / 5 * rank;
                    int[] due = leave >= words ? new int[] {21, leave, leave - words}
                        : leave > 0 ? new int[] {22, leave, days} : new int[] {23, words, days};
                    for (int depth = 0; depth <= 2; depth++) {
                        Kit.due("11 " + words + " words, leave " + leave + ", rank " + rank + ", depth " + depth,
                            x.why(0, 1, 0, 2, depth), due[depth]);
                    }
                }
            }
        }
        Run fast = Kit.house("need a 20;need b 15;need c 16;brother d;brother e;" + "tell d e a voice;".repeat(24));
        Kit.due("11 to 99", "" + fast.why(0, 1, 1, 2, 0) + " " + fast.why(0, 1, 1, 2, 1) + " " + fast.why(0, 1, 1, 2, 2), "23 15 3");
        Kit.due("11 to 100", "" + fast.why(0, 1, 2, 2, 0) + " " + fast.why(0, 1, 2, 2, 1) + " " + fast.why(0, 1, 2, 2, 2), "5 96 4");
        fast.setBell(23, 2);
        Kit.due("11 in speech", "" + fast.why(0, 1, 2, 2, 0) + " " + fast.why(0, 1, 2, 2, 1) + " " + fast.why(0, 1, 2, 2, 2), "20 23 -1");
    }

    /** "by 20 the hour of the bell": of the latest one, also of the day before. */
    private static void promise11WhyAtMidnight() {
        for (int bell = 0; bell <= 23; bell++) {
            Run x = Kit.house("need a 1;elder b;elder c;bell " + bell + " speech;");
            for (int hour = 0; hour <= 23; hour++) {
                Kit.due("11 the bell alone", x.why(0, 1, 0, 2, 1), bell);
                x.pass(1);
            }
        }
        Run x = Kit.house("need a 1;elder b;elder c;bell 23 speech;bell 1 speech;bell 3 silence;");
        int[] hours = {23, 1, 1, 4};
        for (int hour = 0; hour <= 2; hour++) {
            Kit.due("11 the bell at hour " + hour, x.why(0, 1, 0, 2, 1), hours[hour]);
            x.pass(1);
        }
        Kit.due("11 silence", x.why(0, 1, 0, 2, 0), 23);
    }

    /** By voice in the hours around those of speech: it is the hour now that counts. */
    private static void speechNowOrNot() {
        for (int bell = 1; bell <= 22; bell++) {
            Run x = Kit.house("paper 0;need a 20;elder b;elder c;bell " + bell + " speech;bell " + (bell + 1) + " silence;wait " + bell + ";");
            Run ahead = Kit.house("paper 0;need a 20;elder b;elder c;bell " + (bell + 1) + " speech;bell " + (bell + 2) % 24
                + " silence;wait " + bell + ";");
            String now = " at " + bell;
            Kit.due("11 speech" + now, "" + x.why(0, 1, 0, 2, 0) + " " + x.why(0, 1, 0, 2, 1) + " " + x.why(0, 1, 0, 2, 2),
                "20 " + bell + " -1");
            Kit.due("11 silence" + now, "" + ahead.why(0, 1, 0, 2, 0) + " " + ahead.why(0, 1, 0, 2, 1) + " "
                + ahead.why(0, 1, 0, 2, 2), "23 20 8");
            Kit.due("23 speech" + now, x.tell(0, 1, 0, 2) + x.account(8), 0);
            Kit.due("23 words by the bell" + now, x.account(4), 20);
            Kit.due("23 silence" + now, ahead.tell(0, 1, 0, 2) + ahead.account(8), 16);
            for (int i = 1; i < 12; i++) {
                ahead.tell(0, 1, 0, 2);
            }
            Kit.due("11 too much fast" + now, "" + ahead.why(0, 1, 0, 2, 0) + ahead.bestWay(0, 1, 0), "5-1");
            Kit.due("23 too much fast" + now, ahead.tell(0, 1, 0, 2), -15);
            ahead.pass(1);
            Kit.due("23 speech an hour later" + now, ahead.bestWay(0, 1, 0) + ahead.tell(0, 1, 0, 2), 2);
            x.set(2, 2);
            Kit.due("16 the bell for nothing" + now, x.bestWay(0, 1, 0), 2);
            x.pass(1);
            Kit.due("16 no bell an hour later" + now, x.bestWay(0, 1, 0), 1);
        }
        Run day = Kit.house("grant 50;need a 20;elder b;elder c;novice d;bell 0 speech;bell 3 silence;wait 5;wait 24;give c d 4;");
        Kit.due("11 silence behind the speech of the morning, without leave",
            "" + day.why(0, 1, 0, 2, 0) + " " + day.why(0, 1, 0, 2, 1) + " " + day.why(0, 1, 0, 2, 2), "23 20 8");
        Kit.due("11 in part by leave then",
            "" + day.why(2, 1, 0, 2, 0) + " " + day.why(2, 1, 0, 2, 1) + " " + day.why(2, 1, 0, 2, 2), "22 4 4");
        Kit.due("23 by voice then", "" + day.tell(0, 1, 0, 2) + day.tell(2, 1, 0, 2) + day.account(4), "840");
        Run midnight = Kit.house("need a 20;brother b;elder c;bell 23 silence;bell 22 speech;wait 23;");
        Kit.due("23 silence at 23", midnight.tell(0, 1, 0, 2), 4);
        midnight.pass(1);
        Kit.due("23 silence at 0", midnight.tell(0, 1, 0, 2), 4);
        midnight.setBell(23, 0);
        Kit.due("23 speech at 0 by the bell at 22", midnight.tell(0, 1, 0, 2), 0);
        Kit.due("11 its hour", midnight.why(0, 1, 0, 2, 1), 22);
    }

    private static void promise12Gap() {
        Kit.due("12 at first", new Run().gap(), 0);
        Run all = Kit.house("grant 50;need a 9;need z 3;elder b;brother c;brother d;bell 20 speech;bell 21 silence;"
            + "give b c 12;give b d 5;tell c b a voice;tell d b a voice;tell c d z slip;wait 20;tell d c z voice;tell c b a voice;");
        Kit.due("12 by the bell, by leave, in a breach", "" + all.account(4) + " " + all.account(5) + " " + all.account(6), "12 14 4");
        Kit.due("12 leave and fast that stay", "" + all.count(9) + all.count(10) + all.gap(), "310");
        all.pass(28);
        all.give(0, 1, 4);
        Kit.due("12 expired, kept and given", "" + all.account(11) + all.account(9) + all.account(10) + all.gap(), "31210");
        looks("12 rich", 0, y -> y.gap());
        Run x = RICH.again();
        for (int i = 0; i < 6; i++) {
            x.undo();
            Kit.due("12 undone", x.gap(), 0);
        }
        x.restore(0);
        Kit.due("12 restored", x.gap(), 0);
        x.load();
        Kit.due("12 loaded", x.gap(), 0);
        Run late = Kit.house("need a 20;elder b;brother c;bell 9 speech;bell 10 silence;");
        Kit.passTo(late, 9990);
        for (int i = 0; i < 9; i++) {
            late.tell(0, 1, 0, 2);
            late.give(0, 1, 3);
            late.tell(1, 0, 0, 2);
            late.pass(1);
            Kit.due("12 late", late.gap(), 0);
        }
    }

    private static void promise13MeanFast() {
        Kit.due("13 none", new Run().meanFast(), 0.0);
        looks("13 rich", 1.25, y -> y.meanFast());
        for (int monks = 2; monks <= 12; monks++) {
            StringBuilder text = new StringBuilder("need a 1;");
            for (int i = 0; i < monks; i++) {
                text.append("brother ").append((char) ('a' + i)).append(';');
            }
            Run x = Kit.house(text + "tell a b a voice;");
            Kit.due("13 one day of " + monks, x.meanFast(), 1.0 / (double) monks);
        }
        Run full = Kit.house("need a 20;need b 15;brother c;brother d;" + "tell c d a voice;".repeat(24));
        full.tell(0, 1, 1, 2);
        Kit.due("13 99 and 0", full.meanFast(), 49.5);
    }

    private static void promise14BreachShare() {
        Kit.due("14 none", new Run().breachShare(), 0.0f);
        looks("14 rich", 1.0f, y -> y.breachShare());
        Run signs = Kit.house("need a 1;elder b a;elder c a;tell b c a sign;tell b c a slip;");
        Kit.due("14 no word", signs.breachShare(), 0.0f);
        Run x = Kit.house("need a 7;elder b;brother c;give b c 6;tell c b a voice;");
        Kit.due("14 one of seven", x.breachShare(), 1.0f / 7.0f);
        x.setBell(0, 2);
        x.tell(0, 1, 0, 2);
        Kit.due("14 one of fourteen", x.breachShare(), 1.0f / 14.0f);
        x.tell(0, 1, 0, 2);
        Kit.due("14 one of twenty-one", x.breachShare(), 1.0f / 21.0f);
        Kit.due("14 only by the bell",
            Kit.house("need a 7;elder b;brother c;bell 1 speech;tell b c a voice;").breachShare(), 0.0f);
    }

    private static void promise15Ranked() {
        int[] due = {1, 0, 3, 2};
        for (int place = 0; place <= 3; place++) {
            int which = place;
            looks("15 place " + place, due[place], y -> y.ranked(which));
        }
        for (int place : new int[] {-1, 4, 11, 12, Integer.MIN_VALUE, Integer.MAX_VALUE}) {
            looks("15 place " + place, SilentMonks.NONE, y -> y.ranked(place));
        }
        Run all = Kit.house("need a 1;" + Kit.monks(12));
        for (int place = 0; place < 12; place++) {
            Kit.due("15 all alike", all.ranked(place), place);
        }
        Kit.due("15 behind twelve", all.ranked(12), SilentMonks.NONE);
        Run x = Kit.house("need a 1;need f 6;elder b;elder c;elder d;elder e;give b c 1;give b e 1;tell d b a voice;");
        Kit.due("15 fast, leave, the lowest", "" + x.ranked(0) + x.ranked(1) + x.ranked(2) + x.ranked(3), "2130");
        x.tell(3, 0, 1, 2);
        Run leaves = Kit.house("grant 50;need a 1;elder b;elder c;elder d;elder e;give b c 4;give b d 6;give b e 5;");
        Kit.due("15 more leave", "" + leaves.ranked(0) + leaves.ranked(1) + leaves.ranked(2) + leaves.ranked(3), "2310");
        Kit.due("15 as much fast, the lowest", "" + x.ranked(0) + x.ranked(1) + x.ranked(2) + x.ranked(3), "2310");
        x.tell(3, 0, 0, 2);
        Kit.due("15 more fast", "" + x.ranked(0) + x.ranked(1) + x.ranked(2) + x.ranked(3), "3210");
    }

    // ---- what would be

    private static void promise16BestWay() {
        looks("16 a sign", 0, y -> y.bestWay(0, 1, 0));
        looks("16 a slip", 1, y -> y.bestWay(1, 2, 1));
        looks("16 by voice", 2, y -> y.bestWay(0, 2, 1));
        for (int wrong : new int[] {-1, 4, 12, Integer.MIN_VALUE, Integer.MAX_VALUE}) {
            throwsAll("16 from " + wrong, INDEX, y -> y.bestWay(wrong, 0, 0));
            throwsAll("16 to " + wrong, INDEX, y -> y.bestWay(0, wrong, 0));
            throwsAll("16 both " + wrong, INDEX, y -> y.bestWay(wrong, wrong, 0));
            throwsAll("16 need " + wrong, INDEX, y -> y.bestWay(1, 1, wrong));
        }
        throwsAll("16 need 2", INDEX, y -> y.bestWay(0, 1, 2));
        for (int monk = 0; monk <= 3; monk++) {
            int who = monk;
            throwsAll("16 the same, " + monk, ARGUMENT, y -> y.bestWay(who, who, 0));
        }
        for (int words = 1; words <= 20; words++) {
            for (int leave = 0; leave <= words + 1; leave++) {
                for (int rank = 0; rank <= 2; rank++) {
                    bestOfTwo(words, leave, rank);
                }
            }
        }
        Run speech = Kit.house("need a 1;need b 20;elder c a;elder d a;bell 1 speech;");
        Kit.due("16 a sign is the least of two for nothing", speech.bestWay(0, 1, 0), 0);
        Kit.due("16 the bell costs nothing", speech.bestWay(0, 1, 1), 2);
    }

    /** A slip or by voice: of both the one of less cost, a slip if the costs are the same; by voice if paper is short. */
    private static void bestOfTwo(int words, int leave, int rank) {
        String name = rank == 0 ? "novice" : rank == 1 ? "brother" : "elder";
        Run x = Kit.house("paper 4;grant 50;need a " + words + ";" + name + " b;elder c;"
            + (leave == 0 ? "" : "give c b " + leave + ";"));
        int pages = (words + 9) / 10 * (rank == 0 ? 2 : 1);
        int rest = Math.max(words - leave, 0);
        int voice = 10 * ((rest + 4) / 5) * (rank == 2 ? 2 : 1) + words - rest;
        String told = " of " + words + " words, leave " + leave + ", rank " + rank;
        Kit.due("16 the best" + told, x.bestWay(0, 1, 0), 3 * pages <= voice ? 1 : 2);
        x.set(2, pages);
        Kit.due("16 just paper" + told, x.bestWay(0, 1, 0), 3 * pages <= voice ? 1 : 2);
        x.set(2, pages - 1);
        Kit.due("16 too little paper" + told, x.bestWay(0, 1, 0), 2);
    }

    private static void promise17SpeechIn() {
        Kit.due("17 never", new Run().speechIn(), SilentMonks.NONE);
        looks("17 rich", 4, y -> y.speechIn());
        for (int bell = 0; bell <= 23; bell++) {
            Run x = Kit.house("need a 1;elder b;bell " + bell + " speech;bell " + (bell + 1) % 24 + " silence;");
            for (int hour = 0; hour <= 23; hour++) {
                Kit.due("17 at " + hour + " for " + bell, x.speechIn(), (bell - hour + 24) % 24);
                x.pass(1);
            }
        }
        Run now = Kit.house("need a 1;elder b;bell 20 speech;bell 5 silence;");
        Kit.due("17 now, by the bell of yesterday", now.speechIn(), 0);
        now.pass(4);
        Kit.due("17 the last hour of it", now.speechIn(), 0);
        now.pass(1);
        Kit.due("17 the first hour without", now.speechIn(), 15);
        Run late = Kit.house("need a 1;elder b;bell 14 speech;bell 15 silence;");
        Kit.passTo(late, 9999);
        Kit.changesNothing("17 behind 9999", late, y -> y.speechIn(), 23);
    }

    private static void promise18FastIn() {
        looks("18 hours 0", 5, y -> y.fastIn(0));
        looks("18 to the last hour of the day", 5, y -> y.fastIn(21));
        looks("18 to midnight", 4, y -> y.fastIn(22));
        looks("18 to the next midnight", 3, y -> y.fastIn(46));
        looks("18 hours 999", 0, y -> y.fastIn(999));
        throwsAll("18 hours -1", ARGUMENT, y -> y.fastIn(-1));
        throwsAll("18 hours 1000", ARGUMENT, y -> y.fastIn(1000));
        for (int far : FAR) {
            throwsAll("18 hours " + far, ARGUMENT, y -> y.fastIn(far));
        }
        Run full = Kit.house("need a 20;need b 15;brother c;elder d;" + "tell c d a voice;".repeat(24) + "tell c d b voice;");
        Kit.due("18 99", full.fastIn(0), 99);
        for (int hours = 0; hours <= 999; hours++) {
            Kit.due("18 the day of the breach, " + hours, full.fastIn(hours), 99 - Math.max(hours / 24 - 1, 0));
        }
        full.pass(47);
        for (int hours = 0; hours <= 999; hours++) {
            Kit.due("18 a day that is kept, " + hours, full.fastIn(hours), 99 - (23 + hours) / 24);
        }
        Run late = Kit.house("need a 20;brother b;brother c;");
        Kit.passTo(late, 9998);
        late.tell(0, 1, 0, 2);
        late.pass(1);
        Kit.changesNothing("18 behind 9999, ahead of midnight", late, y -> y.fastIn(32), 4);
        Kit.changesNothing("18 behind 9999, at midnight", late, y -> y.fastIn(33), 3);
        Kit.changesNothing("18 behind 9999, far", late, y -> y.fastIn(999), 0);
    }

    private static void promise19FreeIn() {
        looks("19 one day", 22, y -> y.freeIn(0));
        looks("19 four days behind the day of the breach", 22 + 96, y -> y.freeIn(1));
        looks("19 none", 0, y -> y.freeIn(2));
        looks("19 none of the last one", 0, y -> y.freeIn(3));
        for (int wrong : new int[] {-1, 4, 11, 12, Integer.MIN_VALUE, Integer.MAX_VALUE}) {
            throwsAll("19 monk " + wrong, INDEX, y -> y.freeIn(wrong));
        }
        for (int hour = 0; hour <= 23; hour++) {
            Run x = Kit.house("need a 5;brother b;brother c;" + (hour == 0 ? "" : "wait " + hour + ";") + "tell b c a voice;");
            Kit.due("19 on the day of the breach at " + hour, x.freeIn(0), 48 - hour);
            x.pass(24);
            Kit.due("19 on the next day at " + hour, x.freeIn(0), 24 - hour);
            if (hour < 23) {
                x.pass(23 - hour);
            }
            Kit.due("19 in the last hour", x.freeIn(0), 1);
            x.pass(1);
            Kit.due("19 free", x.freeIn(0), 0);
        }
        Run full = Kit.house("need a 20;need b 15;brother c;elder d;" + "tell c d a voice;".repeat(24) + "tell c d b voice;");
        Kit.due("19 99 days", full.freeIn(0), 100 * 24);
        full.pass(24);
        Kit.due("19 99 days, kept from now on", full.freeIn(0), 99 * 24);
        Run late = Kit.house("need a 5;brother b;brother c;");
        Kit.passTo(late, 9999);
        late.tell(0, 1, 0, 2);
        Kit.changesNothing("19 behind 9999", late, y -> y.freeIn(0), 48 - 15);
    }

    private static void promise20BestBell() {
        looks("20 rich", 8, y -> y.bestBell());
        for (int silence = 0; silence <= 23; silence++) {
            Kit.due("20 one of silence", Kit.house("need a 1;elder b;bell " + silence + " silence;").bestBell(), silence);
            Kit.due("20 one of speech", Kit.house("need a 1;elder b;bell " + silence + " speech;").bestBell(), 0);
            for (int other = 0; other <= 23; other++) {
                if (other != silence) {
                    bestOfTwoBells(silence, other);
                }
            }
        }
        Run all = new Run();
        for (int hour = 0; hour <= 23; hour++) {
            all.setBell(hour, 1);
        }
        Kit.due("20 silence at all hours", all.bestBell(), 0);
        all.setBell(0, 2);
        Kit.due("20 silence at all hours but 0", all.bestBell(), 1);
        all.setBell(0, 0);
        all.setBell(1, 0);
        Kit.due("20 over midnight", all.bestBell(), 23);
        Run late = Kit.house("need a 1;elder b;bell 7 silence;");
        Kit.passTo(late, 9999);
        Kit.changesNothing("20 at 9999", late, y -> y.bestBell(), 7);
    }

    /** A bell of silence and one of speech: only in place of that of silence there is speech all day. */
    private static void bestOfTwoBells(int silence, int other) {
        String bells = "need a 1;elder b;bell " + silence + " silence;";
        Kit.due("20 silence " + silence + " speech " + other, Kit.house(bells + "bell " + other + " speech;").bestBell(), silence);
        int hours = (other - silence + 24) % 24;
        int due = hours > 12 ? silence : hours < 12 ? other : Math.min(silence, other);
        Kit.due("20 silence " + silence + " and " + other, Kit.house(bells + "bell " + other + " silence;").bestBell(), due);
    }

    private static void promise21BestHearer() {
        looks("21 rich", 3, y -> y.bestHearer());
        Kit.due("21 the only one", Kit.house("need a 1;elder b a;want b a;").bestHearer(), 0);
        for (int from = 0; from <= 2; from++) {
            for (int to = 0; to <= 2; to++) {
                Run x = Kit.house("need a 1;need z 1;" + name(from) + " b a;" + name(to) + " c a;want b a;");
                Kit.due("21 rank " + from + " to " + to, x.bestHearer(), to >= from ? 1 : 0);
                Kit.due("21 it does not tell", x.count(8) + x.account(0), 1);
            }
        }
        String house = "need a 1;need z 1;elder b a z;elder c a;elder d a z;elder e z;";
        Kit.due("21 the lowest of several", Kit.house(house + "want b a;").bestHearer(), 1);
        Kit.due("21 two wants of one", Kit.house(house + "want b a;want b z;").bestHearer(), 2);
        Kit.due("21 one that who tells does not know", Kit.house(house + "want e a;").bestHearer(), 0);
        Kit.due("21 none by who does not know it", Kit.house("need a 1;elder b;elder c a;elder d a;want b a;").bestHearer(), 0);
        Kit.due("21 none by who hears without knowing it", Kit.house("need a 1;elder b a;elder c;elder d a;want b a;").bestHearer(), 2);
        Kit.due("21 of two monks", Kit.house(house + "want b a;want c a;").bestHearer(), 2);
        Kit.due("21 of all others", Kit.house(house + "want b z;want d z;want e z;").bestHearer(), 0);
        Kit.due("21 its own does not count", Kit.house(house + "want b a;want b z;want d a;want d z;want c a;").bestHearer(), 0);
        Run full = Kit.house(Kit.needs(8) + "novice x a;" + "elder y;" + "elder z a b c d e f g h;brother w a b c d e f g h;");
        for (int need = 0; need <= 7; need++) {
            full.want(3, need);
        }
        Kit.due("21 eight wants", full.bestHearer(), 2);
        Run twelve = Kit.house("need a 1;novice a a;novice b a;novice c a;novice d a;novice e a;novice f a;novice g a;novice h a;"
            + "novice i a;novice j a;novice k;elder l a;want b a;");
        Kit.due("21 the lowest of twelve", twelve.bestHearer(), 0);
        Run last = Kit.house("need a 1;brother a;brother b;brother c;brother d;brother e;brother f;brother g;brother h;"
            + "brother i;brother j;brother k a;brother l a;want k a;");
        Kit.due("21 the last of twelve", last.bestHearer(), 11);
    }

    private static String name(int rank) {
        return rank == 0 ? "novice" : rank == 1 ? "brother" : "elder";
    }

    // ---- changes

    private static void promise22Want() {
        Kit.changesNothing("22 refused", RICH, y -> y.want(1, 1), -11);
        Kit.changesNothing("22 refused to the last one", RICH, y -> y.want(3, 0), -11);
        for (int wrong : new int[] {-1, 4, 12, 32, Integer.MIN_VALUE, Integer.MAX_VALUE}) {
            throwsAll("22 monk " + wrong, INDEX, y -> y.want(wrong, 0));
            throwsAll("22 need " + wrong, INDEX, y -> y.want(0, wrong));
            throwsAll("22 the exception ahead of the refusal, " + wrong, INDEX, y -> y.want(1, wrong));
        }
        throwsAll("22 need 2", INDEX, y -> y.want(0, 2));
        Run x = Kit.house(Kit.needs(8) + "elder m;elder n;");
        for (int need = 7; need >= 0; need--) {
            Kit.due("22 wants", x.want(1, need), 8 - need);
        }
        Kit.due("22 all of them", Kit.monkText(x, 1), "n:/a b c d e f g h");
        Kit.due("22 the first of another one", x.want(0, 0), 1);
        for (int need = 0; need <= 7; need++) {
            int which = need;
            Kit.due("22 wanted already", Kit.answerOf(x, y -> y.want(1, which)), -11);
        }
        Run met = RICH.again();
        met.set(2, 9);
        met.tell(1, 3, 1, 1);
        Kit.due("22 a want that was met", met.want(1, 1), 1);
    }

    private static void promise23Tell() {
        Kit.changesNothing("23 refused by 2", RICH, y -> y.tell(2, 1, 0, 0), -12);
        Kit.changesNothing("23 refused by 2, and by 3", RICH, y -> y.tell(2, 3, 0, 0), -12);
        Kit.changesNothing("23 refused by 3", RICH, y -> y.tell(1, 2, 0, 0), -13);
        Kit.changesNothing("23 refused by 4", RICH, y -> y.tell(0, 1, 1, 1), -14);
        Run fast = Kit.house("need a 20;elder b;elder c;" + "tell b c a voice;".repeat(12));
        Kit.changesNothing("23 refused by 5", fast, y -> y.tell(0, 1, 0, 2), -15);
        for (int wrong : new int[] {-1, 4, 12, 32, Integer.MIN_VALUE, Integer.MAX_VALUE}) {
            throwsAll("23 from " + wrong, INDEX, y -> y.tell(wrong, 0, 0, 2));
            throwsAll("23 to " + wrong, INDEX, y -> y.tell(0, wrong, 0, 2));
            throwsAll("23 both " + wrong, INDEX, y -> y.tell(wrong, wrong, 0, 2));
            throwsAll("23 need " + wrong, INDEX, y -> y.tell(0, 1, wrong, 2));
            throwsAll("23 way " + wrong, ARGUMENT, y -> y.tell(0, 1, 0, wrong));
            throwsAll("23 the index first, " + wrong, INDEX, y -> y.tell(1, 1, wrong, wrong));
            throwsAll("23 the exception ahead of the refusal, " + wrong, INDEX, y -> y.tell(2, 1, wrong, 0));
        }
        throwsAll("23 need 2", INDEX, y -> y.tell(0, 1, 2, 1));
        throwsAll("23 way 3", ARGUMENT, y -> y.tell(0, 1, 0, 3));
        for (int monk = 0; monk <= 3; monk++) {
            for (int way = 0; way <= 2; way++) {
                int who = monk;
                int by = way;
                throwsAll("23 the same, " + monk + by, ARGUMENT, y -> y.tell(who, who, 1, by));
            }
        }
        for (int signs = 1; signs <= 8; signs++) {
            String known = " a b c d e f g h".substring(0, 2 * signs);
            Run x = Kit.house(Kit.needs(8) + "elder m" + known + ";elder n a b c d e f g h;");
            Kit.due("23 signs that both know", x.tell(0, 1, signs - 1, 0), signs);
            Kit.due("23 as the other one sees it", x.tell(1, 0, 0, 0), signs);
        }
        int[][] days = {{1, 1}, {5, 1}, {6, 2}, {10, 2}, {11, 3}, {15, 3}, {16, 4}, {20, 4}};
        for (int[] pair : days) {
            for (int rank = 0; rank <= 2; rank++) {
                Run x = Kit.house("need a " + pair[0] + ";" + name(rank) + " b;elder c;");
                Kit.due("23 days of " + pair[0] + " by " + rank, x.tell(0, 1, 0, 2), rank == 2 ? 2 * pair[1] : pair[1]);
            }
        }
    }

    private static void promise24Give() {
        Kit.changesNothing("24 refused by 6", RICH, y -> y.give(0, 2, 1), -16);
        Kit.changesNothing("24 refused by 6, and by 7 and 8", RICH, y -> y.give(1, 0, 50), -16);
        Kit.changesNothing("24 refused by 8", RICH, y -> y.give(2, 1, 1), -18);
        Kit.changesNothing("24 refused by 8, and by 9", RICH, y -> y.give(2, 0, 50), -18);
        Kit.changesNothing("24 refused by 9", RICH, y -> y.give(2, 3, 6), -19);
        Kit.due("24 not refused", RICH.again().give(2, 3, 5), 12);
        for (int wrong : new int[] {-1, 4, 12, Integer.MIN_VALUE, Integer.MAX_VALUE}) {
            throwsAll("24 from " + wrong, INDEX, y -> y.give(wrong, 0, 1));
            throwsAll("24 to " + wrong, INDEX, y -> y.give(2, wrong, 1));
            throwsAll("24 both " + wrong, INDEX, y -> y.give(wrong, wrong, 0));
        }
        for (int words : new int[] {0, 51, -1, 99, 100, Integer.MIN_VALUE, Integer.MAX_VALUE}) {
            throwsAll("24 words " + words, ARGUMENT, y -> y.give(2, 3, words));
            throwsAll("24 words of a novice, " + words, ARGUMENT, y -> y.give(0, 3, words));
            throwsAll("24 the index first, " + words, INDEX, y -> y.give(2, 4, words));
        }
        for (int monk = 0; monk <= 3; monk++) {
            int who = monk;
            throwsAll("24 the same, " + monk, ARGUMENT, y -> y.give(who, who, 1));
        }
        Run one = Kit.house("need a 1;elder b;elder c;elder d;tell b c a voice;wait 24;wait 24;");
        Kit.due("24 a fast of 1", one.monk(0, 2), 1);
        Kit.changesNothing("24 a fast of 1 who gives", one, y -> y.give(0, 1, 1), -17);
        Kit.changesNothing("24 a fast of 1 who is given", one, y -> y.give(1, 0, 1), -18);
        one.pass(24);
        Kit.due("24 no fast of both", one.give(0, 1, 1) + one.give(1, 0, 1), 2);
        for (int words = 1; words <= 50; words++) {
            Run x = Kit.house("grant " + words + ";need a 1;elder b;novice c;");
            Kit.due("24 all of the grant", x.give(0, 1, words), words);
            Kit.due("24 given and leave", x.monk(0, 3) + x.monk(1, 1), 2 * words);
            Kit.due("24 one above it", x.give(0, 1, 1), -19);
            x.undo();
            x.set(3, words - 1);
            Kit.due("24 one more than the grant", x.give(0, 1, words), -19);
        }
    }

    private static void promise25Pass() {
        for (int hours : new int[] {0, -1, 100, 999, Integer.MIN_VALUE, Integer.MAX_VALUE}) {
            throwsAll("25 hours " + hours, ARGUMENT, y -> y.pass(hours));
        }
        Run late = new Run();
        Kit.passTo(late, 9990);
        for (int hours = 1; hours <= 99; hours++) {
            int some = hours;
            Run x = late.again();
            Kit.due("25 from 9990 " + hours, Kit.answerOf(x, y -> y.pass(some)), hours <= 9 ? 0 : -21);
            Kit.due("25 TIME behind it", x.count(4), hours <= 9 ? 9990 + hours : 9990);
            Kit.due("25 changes", x.count(12), 8);
        }
        late.pass(9);
        Kit.changesNothing("25 at 9999", late, y -> y.pass(1), -21);
        Kit.changesNothing("25 the exception ahead of the refusal", late, y -> y.pass(100), ARGUMENT);
        Kit.changesNothing("25 nor 0 hours", late, y -> y.pass(0), ARGUMENT);
        Run x = RICH.again();
        Kit.due("25 one hour", x.pass(1) + x.count(4), 27);
        Kit.due("25 ninety-nine", x.pass(99) + x.count(4), 4 + 126);
    }

    private static void promise26SetBell() {
        for (int hour = 0; hour <= 23; hour++) {
            Run x = RICH.again();
            int before = hour == 6 ? 2 : hour == 8 ? 1 : 0;
            Kit.due("26 before, at " + hour, x.setBell(hour, 2), before);
            Kit.due("26 speech, at " + hour, x.setBell(hour, 1), 2);
            Kit.due("26 silence, at " + hour, x.setBell(hour, 0), 1);
            Kit.due("26 none, at " + hour, x.setBell(hour, 0), 0);
            Kit.due("26 changes", x.count(12), 8);
            for (int i = 0; i < 4; i++) {
                x.undo();
            }
            Kit.due("26 undone", x.bell(hour), before);
            Kit.due("26 all bells", x.count(6), 2);
        }
        for (int wrong : new int[] {-1, 24, 32, Integer.MIN_VALUE, Integer.MAX_VALUE}) {
            throwsAll("26 hour " + wrong, INDEX, y -> y.setBell(wrong, 1));
            throwsAll("26 bell " + wrong, ARGUMENT, y -> y.setBell(23, wrong));
            throwsAll("26 both " + wrong, INDEX, y -> y.setBell(wrong, wrong));
        }
        throwsAll("26 bell 3", ARGUMENT, y -> y.setBell(0, 3));
        throwsAll("26 bell 3 at hour 24", INDEX, y -> y.setBell(24, 3));
    }

    private static void promise27Set() {
        for (int what : new int[] {-1, 0, 1, 4, 5, 12, Integer.MIN_VALUE, Integer.MAX_VALUE}) {
            throwsAll("27 what " + what, ARGUMENT, y -> y.set(what, 10));
        }
        for (int value : new int[] {-1, 100, Integer.MIN_VALUE, Integer.MAX_VALUE}) {
            throwsAll("27 paper " + value, ARGUMENT, y -> y.set(2, value));
            throwsAll("27 grant " + value, ARGUMENT, y -> y.set(3, value));
        }
        throwsAll("27 grant 51", ARGUMENT, y -> y.set(3, 51));
        throwsAll("27 grant 99", ARGUMENT, y -> y.set(3, 99));
        Run x = RICH.again();
        Kit.due("27 paper", x.set(2, 99), 3);
        Kit.due("27 grant", x.set(3, 50), 12);
        Kit.due("27 the other one stays", "" + x.count(2) + " " + x.count(3), "99 50");
        Kit.due("27 paper 0", x.set(2, 0), 99);
        Kit.due("27 grant 0", x.set(3, 0), 50);
        Kit.due("27 given stays", x.monk(2, 3), 7);
        Kit.due("27 below what is given", x.give(2, 3, 1), -19);
        Kit.due("27 a slip without paper", x.tell(3, 2, 1, 1), -14);
        x.set(3, 8);
        Kit.due("27 up to the new grant", x.give(2, 3, 1), 8);
    }

    private static void promise28Undo() {
        Kit.changesNothing("28 a new object", new Run(), y -> y.undo(), STATE);
        Run x = RICH.again();
        for (int left = 5; left >= 0; left--) {
            Kit.due("28 left", x.undo(), left);
            Kit.due("28 left by count", x.count(12), left);
        }
        Kit.due("28 all as at first", Kit.everything(x), Kit.everything(new Run()));
        Kit.due("28 the names, too", Kit.monkText(x, 0), "b:/");
        Kit.changesNothing("28 none left", x, y -> y.undo(), STATE);
        Kit.due("28 what was saved is there", x.restore(0) + x.count(0), 4);
        Kit.due("28 undone", x.undo() + x.count(0), 1);
        Run eight = Kit.house("need a 1;elder b;");
        for (int i = 0; i < 8; i++) {
            eight.set(2, i);
        }
        for (int left = 7; left >= 0; left--) {
            Kit.due("28 of nine", eight.undo(), left);
        }
        Kit.due("28 the load is too old", Kit.answerOf(eight, y -> y.undo()), STATE);
        Kit.due("28 as behind the load", eight.count(2), 20);
    }

    private static void promises29And30SaveAndRestore() {
        for (int slot : new int[] {-1, 2, 3, Integer.MIN_VALUE, Integer.MAX_VALUE}) {
            throwsAll("29 slot " + slot, INDEX, y -> {
                y.save(slot);
                return 0;
            });
            throwsAll("30 slot " + slot, INDEX, y -> y.restore(slot));
        }
        throwsAll("30 nothing in slot 1", STATE, y -> y.restore(1));
        Kit.changesNothing("30 nothing in slot 0", new Run(), y -> y.restore(0), STATE);
        Kit.changesNothing("30 nothing in slot 1", new Run(), y -> y.restore(1), STATE);
        Kit.changesNothing("30 the index first", new Run(), y -> y.restore(2), INDEX);
        Run x = RICH.again();
        x.save(1);
        Kit.due("29 what can be undone stays", x.count(12), 6);
        Kit.due("30 slot 0", x.restore(0), 0);
        Kit.due("30 slot 1", x.restore(1), 26);
        Kit.due("30 two changes", x.count(12), 8);
        Kit.due("30 slot 1 again", x.restore(1), 26);
        Kit.due("30 eight changes still", x.count(12), 8);
        x.pass(1);
        x.save(1);
        Kit.due("29 in place of what was saved there", x.restore(1), 27);
        Kit.due("29 not in the other slot", x.restore(0), 0);
        Run late = new Run();
        late.save(0);
        Kit.passTo(late, 9999);
        late.save(1);
        Kit.due("30 TIME 0", late.restore(0), 0);
        Kit.due("30 TIME 9999", late.restore(1), 9999);
        Kit.due("30 at its end", late.pass(1), -21);
    }

    /** "Saves everything that undo brings back": accounts, names, bells, numbers and what monks know, want and have. */
    private static void promise30RestoreEverything() {
        Run x = RICH.again();
        x.save(1);
        String saved = Kit.everything(x);
        x.load();
        x.pass(99);
        x.set(2, 77);
        x.setBell(1, 1);
        Kit.due("30 slot 1", x.restore(1), 26);
        Kit.due("30 all of it", Kit.everything(x), saved);
        Kit.due("30 the names", Kit.monkText(x, 0) + " " + Kit.monkText(x, 3), "nil:salt bread/ old:bread/salt");
        x.tell(3, 0, 1, 2);
        x.want(0, 0);
        x.give(2, 3, 1);
        x.pass(40);
        x.setBell(6, 0);
        x.set(3, 0);
        x.set(2, 0);
        Kit.due("30 slot 1 again", x.restore(1), 26);
        Kit.due("30 all of it again", Kit.everything(x), saved);
        Kit.due("30 the error stays", x.errorPosition(), SilentMonks.NONE);
        Kit.due("30 the buffer stays empty", x.append(0, 0, 0, 0, 0), 0);
    }

    // ---- written texts

    private static void promise31WriteMonk() {
        for (int wrong : new int[] {-1, 4, 11, 12, Integer.MIN_VALUE, Integer.MAX_VALUE}) {
            throwsAll("31 monk " + wrong, INDEX, y -> y.writeMonk(wrong));
        }
        String[] due = {"nil:salt bread/", "bo:salt bread/bread", "el:/", "old:bread/salt"};
        for (int monk = 0; monk <= 3; monk++) {
            Run x = RICH.again();
            Kit.due("31 length", x.writeMonk(monk), due[monk].length());
            Kit.due("31 text", Kit.writtenText(x, due[monk].length()), due[monk]);
            Kit.due("31 no change", x.count(12), 6);
        }
        Run x = Kit.house("need zz 1;need b 1;need a 1;elder mmmmmm a zz;want mmmmmm a;want mmmmmm b;want mmmmmm zz;");
        Kit.due("31 by their numbers", Kit.monkText(x, 0), "mmmmmm:zz a/zz b a");
        String all = "aaaaaa bbbbbb cccccc dddddd eeeeee ffffff gggggg hhhhhh";
        Run full = Kit.house("need " + all.replace(" ", " 1;need ") + " 1;elder zzzzzz " + all + ";");
        for (int need = 0; need <= 7; need++) {
            full.want(0, need);
        }
        Kit.due("31 the longest length", full.writeMonk(0), 6 + 1 + 55 + 1 + 55);
        Kit.due("31 the longest text", Kit.writtenText(full, 118), "zzzzzz:" + all + "/" + all);
        Kit.due("31 the shortest text", Kit.monkText(new Run(), 0), "b:/");
    }

    private static void promise32WriteDay() {
        int[] times = {0, 1, 9, 10, 11, 99, 100, 101, 110, 999, 1000, 1001, 1010, 1100, 9900, 9990, 9999};
        Run x = Kit.house("need a 1;elder b;bell 0 silence;bell 23 speech;");
        for (int time : times) {
            Kit.passTo(x, time);
            String text = ".......................s/" + time;
            Run y = x.again();
            Kit.due("32 length at " + time, y.writeDay(), text.length());
            Kit.due("32 day at " + time, Kit.writtenText(y, text.length()), text);
            Kit.due("32 no change", y.count(4), time);
            y.writeMonk(0);
            Kit.due("32 in place of what was written", y.writeDay(), text.length());
            Kit.due("32 the day again", Kit.writtenText(y, text.length()), text);
        }
        Kit.due("32 no bell", Kit.dayText(new Run()), "......................../0");
        Kit.due("32 all of speech", Kit.dayText(Kit.house("need a 1;elder b;bell 13 speech;")), "ssssssssssssssssssssssss/0");
    }

    private static void promise33WrittenByte() {
        Run none = new Run();
        for (int index : new int[] {0, -1, 1, 800, Integer.MIN_VALUE, Integer.MAX_VALUE}) {
            Kit.changesNothing("33 none at first, " + index, none, y -> y.writtenByte(index), INDEX);
        }
        String text = "......ss................/26";
        for (int index = 0; index < text.length(); index++) {
            int which = index;
            looks("33 byte " + index, (int) text.charAt(index), y -> y.writtenByte(which));
        }
        for (int index : new int[] {-1, 27, 28, 118, 119, Integer.MIN_VALUE, Integer.MAX_VALUE}) {
            throwsAll("33 byte " + index, INDEX, y -> y.writtenByte(index));
        }
        Run x = RICH.again();
        x.writeMonk(2);
        Kit.due("33 the last of a shorter one", x.writtenByte(3), 47);
        Kit.due("33 behind a shorter one", Kit.answerOf(x, y -> y.writtenByte(4)), INDEX);
        x.restore(0);
        x.undo();
        x.load();
        Kit.due("33 it stays", Kit.writtenText(x, 4), "el:/");
    }
}
