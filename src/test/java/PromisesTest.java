/** One test for each promise of the document: ordinary inputs, the edges that it names, and wrong inputs. */
public final class PromisesTest {

    /** Monks 0 to 3: novice nil, brother bo, elder el, elder old; needs 0 to 2: salt 4, milk 12, bread 20. */
    private static final String HOUSE =
        "need salt 4;need milk 12;need bread 20;"
        + "novice nil salt;brother bo salt milk;elder el salt milk bread;elder old;";

    private static final int[] WRONG = {-1, Integer.MIN_VALUE, Integer.MAX_VALUE, 99};

    public static void main(String[] args) {
        promise01NewObject();
        promise02Append();
        promise03Load();
        promise04ErrorPosition();
        promise05Count();
        promise06Account();
        promise07Monk();
        promise08Need();
        promise09Has();
        promise10Bell();
        promise11Why();
        promise11WhyWrong();
        promise12Gap();
        promise13MeanFast();
        promise14BreachShare();
        promise15Ranked();
        promise16BestWay();
        promise17SpeechIn();
        promise18FastIn();
        promise19FreeIn();
        promise20BestBell();
        promise21BestHearer();
        promise22Want();
        promise23TellBySign();
        promise23TellBySlip();
        promise23TellByVoice();
        promise23TellWrong();
        promise24Give();
        promise25Pass();
        promise26SetBell();
        promise27Set();
        promise28Undo();
        promise29Save();
        promise30Restore();
        promise31WriteMonk();
        promise32WriteDay();
        promise33WrittenByte();
        fullHouse();
        Kit.end();
    }

    private static void promise01NewObject() {
        Run x = new Run();
        Kit.due("1 all", Kit.everything(x), Kit.everything(Kit.house("need a 1;elder b;")));
        int[] counts = {1, 1, 20, 10, 0, 0, 0, 0, 0, 0, 0, 0, 0};
        for (int what = 0; what < counts.length; what++) {
            Kit.due("1 count " + what, x.count(what), counts[what]);
        }
        Kit.due("1 rank", x.monk(0, 0), 2);
        Kit.due("1 words", x.need(0, 0), 1);
        Kit.due("1 error position", x.errorPosition(), SilentMonks.NONE);
        Kit.throwsIndex("1 written text", () -> x.writtenByte(0));
        Kit.throwsState("1 saved 0", () -> x.restore(0));
        Kit.throwsState("1 saved 1", () -> x.restore(1));
        Kit.throwsState("1 undo", () -> x.undo());
        Kit.due("1 monk's name", Kit.monkText(x, 0), "b:/");
        Kit.due("1 need's name", Kit.monkText(Kit.house("need a 1;elder b a;"), 0), "b:a/");
        Kit.due("1 text buffer", x.append(0x61000000, 0, 0, 0, 0), 1);
    }

    private static void promise02Append() {
        Run x = new Run();
        Kit.due("2 nothing", x.append(0, 0, 0, 0, 0), 0);
        Kit.due("2 zeros are left out", x.append(0x6e006500, 0x00650064, 0, 0x00002000, 0x61), 6);
        Kit.due("2 the rest", x.append(0x20313b65, 0x6c646572, 0x2062203b, 0, 0), 18);
        Kit.due("2 the bytes' order", x.load(), 1);
        Kit.due("2 the name", Kit.monkText(x, 0), "b:/");
        for (int length = 20; length <= 780; length += 20) {
            Kit.due("2 length", x.append(-1, -1, -1, -1, -1), length);
        }
        Kit.due("2 to 799", x.append(-1, -1, -1, -1, 0x01010100), 799);
        Kit.throwsState("2 above 800", () -> x.append(0, 0, 0, 0, 0x01000001));
        Kit.throwsState("2 far above 800", () -> x.append(-1, -1, -1, -1, -1));
        Kit.throwsState("2 above 800 by the 1st argument", () -> x.append(0x01000001, 0, 0, 0, 0));
        Kit.throwsState("2 above 800 by the 2nd argument", () -> x.append(0, 0x01000001, 0, 0, 0));
        Kit.throwsState("2 above 800 by the 3rd argument", () -> x.append(0, 0, 0x01000001, 0, 0));
        Kit.throwsState("2 above 800 by the 4th argument", () -> x.append(0, 0, 0, 0x01000001, 0));
        Kit.due("2 nothing changed", x.append(0, 0, 0, 0, 0), 799);
        Kit.due("2 to 800", x.append(0, 0, 0x00ff0000, 0, 0), 800);
        Kit.throwsState("2 one above 800", () -> x.append(0, 0, 0, 0, 1));
        Kit.due("2 at 800", x.append(0, 0, 0, 0, 0), 800);
        Kit.due("2 bytes above 127", x.load(), SilentMonks.SYNTAX_ERROR);
        Kit.due("2 their place", x.errorPosition(), 0);
    }

    private static void promise03Load() {
        Run x = Kit.house(HOUSE + "bell 3 speech;want nil salt;tell nil bo milk voice;wait 30;");
        String before = Kit.everything(x);
        Kit.due("3 an error", Kit.load(x, "need q 2;elder r;wait 0;"), SilentMonks.VALUE_ERROR);
        Kit.due("3 all stays", Kit.everything(x), before);
        Kit.due("3 an error is no change", x.count(12), 1);
        Kit.due("3 the buffer is empty behind an error", x.append(0x61000000, 0, 0, 0, 0), 1);
        x.load();
        Kit.due("3 an empty text", x.load(), SilentMonks.SYNTAX_ERROR);
        Kit.due("3 monks", Kit.load(x, "paper 5;grant 7;need q 2;elder r;brother s;"), 2);
        Kit.due("3 the buffer is empty behind a load", x.append(0x61000000, 0, 0, 0, 0), 1);
        Kit.due("3 all is another one", Kit.everything(x),
            Kit.everything(Kit.house("paper 5;grant 7;need q 2;elder r;brother s;")));
        Kit.due("3 time", x.count(4), 0);
        Kit.due("3 bells", x.count(6), 0);
        for (int what = 0; what <= 13; what++) {
            Kit.due("3 account " + what, x.account(what), 0);
        }
        Kit.due("3 undone", x.undo(), 1);
        Kit.due("3 all as before", Kit.everything(x), before);
        Kit.load(x, "need a 20;elder b;elder c;elder d;give c d 4;tell b c a voice;want b a;");
        Kit.load(x, "need a 1;novice b;elder c;elder d;");
        Kit.due("3 nothing is left of it", Kit.everything(x), Kit.everything(Kit.house("need a 1;novice b;elder c;elder d;")));
        Kit.load(x, "need a 20;elder b;elder c;elder d;give c d 4;tell b c a voice;wait 0;");
        Kit.load(x, "need a 1;novice b;elder c;elder d;");
        Kit.due("3 nor of one with an error", Kit.everything(x), Kit.everything(Kit.house("need a 1;novice b;elder c;elder d;")));
        Run long800 = new Run();
        Kit.append(long800, HOUSE + " ".repeat(800 - HOUSE.length()));
        Kit.due("3 a text of 800 bytes", long800.load(), 4);
        long800.save(0);
        Kit.load(long800, "need a 1;elder b;");
        Kit.due("3 what was saved stays", long800.restore(0) + long800.count(0), 4);
    }

    private static void promise04ErrorPosition() {
        Run x = new Run();
        Kit.load(x, "need a 1;elder b;  x");
        Kit.due("4 an error", x.errorPosition(), 19);
        x.pass(1);
        x.undo();
        Kit.due("4 undo leaves it", x.errorPosition(), 19);
        Kit.load(x, "need a 1;elder b;");
        Kit.due("4 no error", x.errorPosition(), SilentMonks.NONE);
        Kit.load(x, "need a 21;elder b;");
        Kit.due("4 another error", x.errorPosition(), 7);
        x.load();
        Kit.due("4 the empty text", x.errorPosition(), 0);
    }

    private static void promise05Count() {
        Run x = Kit.house("paper 9;grant 8;" + HOUSE + "bell 5 speech;bell 9 silence;bell 20 silence;"
            + "want nil salt;want bo salt;want bo milk;give el bo 5;give old nil 3;tell old el milk voice;wait 6;");
        int[] due = {4, 3, 9, 8, 6, 1, 3, 4, 3, 8, 6, 6, 1};
        for (int what = 0; what < due.length; what++) {
            Kit.due("5 count " + what, x.count(what), due[what]);
        }
        x.pass(3);
        Kit.due("5 no speech at the hour of silence", x.count(5), 0);
        x.undo();
        x.pass(2);
        Kit.due("5 speech in the hour ahead of it", x.count(5), 1);
        Run night = Kit.house("need a 1;elder b;bell 22 speech;bell 2 silence;");
        Kit.due("5 speech over midnight", night.count(7), 4);
        Kit.due("5 speech at hour 0", night.count(5), 1);
        Kit.due("5 only silence", Kit.house("need a 1;elder b;bell 22 silence;").count(7), 0);
        Kit.due("5 only speech", Kit.house("need a 1;elder b;bell 22 speech;").count(7), 24);
        for (int what : WRONG) {
            Kit.throwsArgument("5 what " + what, () -> x.count(what));
        }
        Kit.throwsArgument("5 what 13", () -> x.count(13));
    }

    private static void promise06Account() {
        // The novice's milk is 6 words by leave and 6 in a breach (2 days), the elder's bread 20 in a breach (8 days);
        // the brother's salt is spoken by the bell of midday. The midnights are at 24, 48, 72 and 96: the first one
        // ends the day of the breaches, the others find 2 + 8, 1 + 7 and 0 + 6 days.
        Run x = Kit.house(HOUSE + "bell 12 speech;bell 0 silence;"
            + "want nil salt;tell nil bo salt sign;tell nil bo salt slip;give el nil 6;tell nil bo milk voice;"
            + "tell old el bread voice;tell bo nil milk slip;wait 11;give el bo 4;wait 1;tell bo nil salt voice;wait 99;");
        int[] due = {1, 2, 3, 4, 4, 6, 26, 2, 10, 5, 10, 4, 1, 1};
        for (int what = 0; what < due.length; what++) {
            Kit.due("6 account " + what, x.account(what), due[what]);
        }
        x.pass(24);
        Kit.due("6 kept", x.account(9), 6);
        x.undo();
        Kit.due("6 undone with the change", x.account(9), 5);
        for (int what : WRONG) {
            Kit.throwsArgument("6 what " + what, () -> x.account(what));
        }
        Kit.throwsArgument("6 what 14", () -> x.account(14));
    }

    private static void promise07Monk() {
        Run x = Kit.house(HOUSE + "bell 20 silence;want bo bread;want bo salt;give el bo 3;give old bo 2;give el nil 5;"
            + "tell nil old milk voice;");
        int[][] due = {
            {0, 0, 2, 0, 1, 1, 0, 2, 3},
            {1, 5, 0, 0, 0, 2, 2, 1, 2},
            {2, 0, 0, 8, 0, 3, 0, 0, 2},
            {2, 0, 0, 2, 0, 0, 0, 3, 3}};
        for (int monk = 0; monk < due.length; monk++) {
            for (int what = 0; what < due[monk].length; what++) {
                Kit.due("7 monk " + monk + ", " + what, x.monk(monk, what), due[monk][what]);
            }
        }
        Kit.due("7 the first one knows all signs, too",
            Kit.house("need a 1;elder b a;novice c a;").monk(1, 7), 1);
        Kit.due("7 a long name", Kit.house("need a 1;elder bcdefg;").monk(0, 8), 6);
        x.pass(24);
        Kit.due("7 it did not break silence on the new day", x.monk(0, 4), 0);
        Kit.due("7 nothing given on the new day", x.monk(2, 3), 0);
        Kit.due("7 leave expires", x.monk(1, 1), 0);
        Kit.due("7 the day of the breach is no day of fast", x.monk(0, 2), 2);
        x.pass(24);
        Kit.due("7 a day of fast", x.monk(0, 2), 1);
        for (int wrong : WRONG) {
            Kit.throwsIndex("7 monk " + wrong, () -> x.monk(wrong, 0));
            Kit.throwsArgument("7 what " + wrong, () -> x.monk(0, wrong));
            Kit.throwsIndex("7 both " + wrong, () -> x.monk(wrong, wrong));
        }
        Kit.throwsIndex("7 monk 4", () -> x.monk(4, 0));
        Kit.throwsArgument("7 what 9", () -> x.monk(3, 9));
    }

    private static void promise08Need() {
        Run x = Kit.house(
            "need a 1;need b 5;need c 6;need d 10;need e 11;need f 15;need g 16;need h 20;"
            + "novice i a b;brother j a;elder k a;want i h;want j h;want j g;");
        int[][] due = {
            {1, 3, 0, 1, 1}, {5, 1, 0, 1, 1}, {6, 0, 0, 1, 2}, {10, 0, 0, 1, 2},
            {11, 0, 0, 2, 3}, {15, 0, 0, 2, 3}, {16, 0, 1, 2, 4}, {20, 0, 2, 2, 4}};
        for (int need = 0; need < due.length; need++) {
            for (int what = 0; what < due[need].length; what++) {
                Kit.due("8 need " + need + ", " + what, x.need(need, what), due[need][what]);
            }
        }
        for (int wrong : WRONG) {
            Kit.throwsIndex("8 need " + wrong, () -> x.need(wrong, 0));
            Kit.throwsArgument("8 what " + wrong, () -> x.need(0, wrong));
            Kit.throwsIndex("8 both " + wrong, () -> x.need(wrong, wrong));
        }
        Kit.throwsIndex("8 need 8", () -> x.need(8, 0));
        Kit.throwsArgument("8 what 5", () -> x.need(7, 5));
        Kit.throwsIndex("8 need 1 of 1", () -> new Run().need(1, 0));
    }

    private static void promise09Has() {
        Run x = Kit.house(HOUSE + "want nil bread;want old salt;");
        boolean[][] knows = {{true, false, false}, {true, true, false}, {true, true, true}, {false, false, false}};
        for (int monk = 0; monk < 4; monk++) {
            for (int need = 0; need < 3; need++) {
                Kit.due("9 knows", x.has(monk, need, false), knows[monk][need]);
                Kit.due("9 wants", x.has(monk, need, true), monk == 0 && need == 2 || monk == 3 && need == 0);
            }
        }
        for (int wrong : WRONG) {
            Kit.throwsIndex("9 monk " + wrong, () -> x.has(wrong, 0, true));
            Kit.throwsIndex("9 need " + wrong, () -> x.has(0, wrong, false));
        }
        Kit.throwsIndex("9 monk 4", () -> x.has(4, 0, false));
        Kit.throwsIndex("9 need 3", () -> x.has(0, 3, true));
    }

    private static void promise10Bell() {
        Run x = Kit.house(HOUSE + "bell 0 speech;bell 23 silence;bell 7 speech;bell 7 silence;bell 8 silence;bell 8 speech;");
        for (int hour = 0; hour < 24; hour++) {
            int due = hour == 0 || hour == 8 ? 2 : hour == 7 || hour == 23 ? 1 : 0;
            Kit.due("10 hour " + hour, x.bell(hour), due);
        }
        Kit.due("10 told again, counted once", x.count(6), 4);
        for (int hour : WRONG) {
            Kit.throwsIndex("10 hour " + hour, () -> x.bell(hour));
        }
        Kit.throwsIndex("10 hour 24", () -> x.bell(24));
    }

    private static void why(Run x, int from, int to, int need, int way, int[] due) {
        for (int depth = 0; depth <= 2; depth++) {
            Kit.due("11 why " + from + to + need + way + depth, x.why(from, to, need, way, depth), due[depth]);
        }
    }

    private static void promise11Why() {
        Run x = Kit.house("paper 3;grant 50;" + HOUSE + "give el bo 13;give el nil 12;");
        String before = Kit.everything(x);
        why(x, 3, 1, 0, 0, new int[] {2, 3, -1});
        why(x, 3, 0, 2, 0, new int[] {2, 3, -1});
        why(x, 1, 3, 0, 0, new int[] {3, 3, -1});
        why(x, 2, 0, 2, 0, new int[] {3, 0, -1});
        why(x, 1, 0, 0, 0, new int[] {0, 0, -1});
        why(x, 0, 1, 0, 1, new int[] {0, 2, -1});
        why(x, 0, 1, 1, 1, new int[] {4, 3, 4});
        why(x, 1, 0, 2, 1, new int[] {0, 2, -1});
        why(x, 1, 0, 0, 2, new int[] {21, 13, 9});
        why(x, 0, 1, 1, 2, new int[] {21, 12, 0});
        why(x, 1, 0, 2, 2, new int[] {22, 13, 2});
        why(x, 3, 0, 2, 2, new int[] {23, 20, 8});
        why(Kit.house(HOUSE + "give el bo 1;"), 1, 0, 0, 2, new int[] {22, 1, 1});
        Kit.due("11 nothing changes", Kit.everything(x), before);
        for (int i = 0; i < 12; i++) {
            x.tell(2, 0, 2, 2);
        }
        why(x, 2, 0, 0, 2, new int[] {23, 4, 2});
        why(x, 2, 0, 2, 2, new int[] {5, 96, 8});
        x.tell(2, 0, 0, 2);
        why(x, 2, 0, 0, 2, new int[] {5, 98, 2});
        x.setBell(20, 2);
        why(x, 2, 0, 2, 2, new int[] {20, 20, -1});
        x.setBell(0, 2);
        why(x, 1, 0, 0, 2, new int[] {20, 0, -1});
        x.setBell(0, 1);
        why(x, 1, 0, 0, 2, new int[] {21, 13, 9});
    }

    private static void promise11WhyWrong() {
        Run x = Kit.house(HOUSE);
        for (int wrong : WRONG) {
            Kit.throwsIndex("11 from " + wrong, () -> x.why(wrong, 0, 0, 9, 9));
            Kit.throwsIndex("11 to " + wrong, () -> x.why(0, wrong, 0, 9, 9));
            Kit.throwsIndex("11 need " + wrong, () -> x.why(0, 0, wrong, 9, 9));
            Kit.throwsArgument("11 way " + wrong, () -> x.why(0, 1, 0, wrong, 0));
            Kit.throwsArgument("11 depth " + wrong, () -> x.why(0, 1, 0, 0, wrong));
        }
        Kit.throwsArgument("11 the same", () -> x.why(1, 1, 0, 0, 0));
        Kit.throwsArgument("11 way 3", () -> x.why(0, 1, 0, 3, 0));
        Kit.throwsArgument("11 depth 3", () -> x.why(0, 1, 0, 0, 3));
        Kit.throwsIndex("11 monk 4", () -> x.why(4, 4, 0, 0, 0));
        Kit.throwsIndex("11 need 3", () -> x.why(0, 0, 3, 0, 0));
    }

    private static void promise12Gap() {
        Run x = new Run();
        Kit.due("12 at first", x.gap(), 0);
        Kit.load(x, HOUSE + "bell 9 speech;bell 11 silence;");
        int[][] tells = {{0, 1, 1}, {1, 0, 0}, {2, 3, 2}, {3, 2, 1}};
        for (int round = 0; round < 12; round++) {
            x.give(2, 1, 9);
            Kit.due("12 behind give", x.gap(), 0);
            for (int[] tell : tells) {
                x.tell(tell[0], tell[1], tell[2], 2);
                Kit.due("12 behind tell", x.gap(), 0);
            }
            x.pass(7);
            Kit.due("12 behind pass", x.gap(), 0);
        }
        x.pass(99);
        x.give(2, 0, 8);
        x.pass(23);
        Kit.due("12 with days that were kept", x.account(9) > 0, true);
        Kit.due("12 behind days", x.gap(), 0);
        Run leave = Kit.house(HOUSE + "give el bo 9;wait 24;give el bo 9;tell bo el salt voice;");
        Kit.due("12 with leave that expired", leave.account(11), 9);
        Kit.due("12 behind it", leave.gap(), 0);
        x.save(0);
        x.undo();
        Kit.due("12 behind undo", x.gap(), 0);
        x.restore(0);
        Kit.due("12 behind restore", x.gap(), 0);
        Kit.load(x, HOUSE);
        Kit.due("12 behind load", x.gap(), 0);
    }

    private static void promise13MeanFast() {
        Kit.due("13 at first", new Run().meanFast(), 0.0);
        Run x = Kit.house("need a 20;need b 1;brother c;brother d;elder e;tell c d a voice;tell d c b voice;");
        Kit.due("13 thirds", x.meanFast(), 5.0 / 3.0);
        x.pass(24);
        x.pass(24);
        Kit.due("13 whole", x.meanFast(), 1.0);
    }

    private static void promise14BreachShare() {
        Kit.due("14 without any", new Run().breachShare(), 0.0f);
        Run x = Kit.house("need a 3;need b 7;brother c;brother d;elder e;bell 1 speech;bell 0 silence;"
            + "give e c 5;tell c d a voice;");
        Kit.due("14 by leave alone", x.breachShare(), 0.0f);
        x.tell(0, 1, 1, 2);
        Kit.due("14 in part by leave", x.breachShare(), 5.0f / 10.0f);
        x.pass(1);
        x.tell(1, 0, 1, 2);
        x.tell(1, 0, 1, 2);
        x.tell(1, 0, 1, 2);
        Kit.due("14 most by the bell", x.breachShare(), 5.0f / 31.0f);
        x.undo();
        Kit.due("14 undone", x.breachShare(), 5.0f / 24.0f);
        Kit.due("14 all in breaches",
            Kit.house("need a 3;brother c;brother d;tell c d a voice;").breachShare(), 1.0f);
    }

    private static void promise15Ranked() {
        Run x = Kit.house("need a 5;need b 10;elder z;brother c;brother d;brother e;brother f;brother g;"
            + "give z e 4;give z f 6;tell d c b voice;tell g c a voice;tell c d a voice;");
        int[] due = {2, 1, 5, 4, 3, 0};
        for (int place = 0; place < due.length; place++) {
            Kit.due("15 place " + place, x.ranked(place), due[place]);
        }
        Kit.due("15 behind the last", x.ranked(6), SilentMonks.NONE);
        for (int place : WRONG) {
            Kit.due("15 place " + place, x.ranked(place), SilentMonks.NONE);
        }
        Kit.due("15 the only one", new Run().ranked(0), 0);
        Run leaveToo = Kit.house("need a 5;elder z;brother c;brother d;give z d 9;tell c d a voice;tell d c a voice;");
        Kit.due("15 fast ahead of leave", leaveToo.ranked(0), 1);
        Kit.due("15 leave behind fast", leaveToo.ranked(1), 2);
        Kit.due("15 the lowest one last", leaveToo.ranked(2), 0);
    }

    private static void promise16BestWay() {
        Run x = Kit.house("grant 50;" + HOUSE + "bell 12 speech;bell 0 silence;give el bo 3;give el nil 6;");
        String before = Kit.everything(x);
        Kit.due("16 a sign", x.bestWay(1, 0, 0), 0);
        Kit.due("16 a slip for 3 ahead of 4 words of leave", Kit.house(HOUSE + "give el bo 9;").bestWay(1, 3, 0), 1);
        Kit.due("16 a slip for 3, not a day of fast and 3 words", x.bestWay(1, 3, 0), 1);
        Kit.due("16 by voice, 4 words of leave ahead of a novice's two pages", x.bestWay(0, 3, 0), 2);
        Kit.due("16 the least of several: 6 words or 2 pages",
            Kit.house("need a 6;novice b;elder c;give c b 9;").bestWay(0, 1, 0), 1);
        Kit.due("16 2 words or 1 page", Kit.house("need a 2;brother b;elder c;give c b 9;").bestWay(0, 1, 0), 2);
        Kit.due("16 3 words or 1 page", Kit.house("need a 3;brother b;elder c;give c b 9;").bestWay(0, 1, 0), 1);
        Kit.due("16 a day of fast", Kit.house("paper 0;need a 3;brother b;elder c;").bestWay(0, 1, 0), 2);
        Kit.due("16 a day of fast or 2 pages", Kit.house("need a 5;novice c;brother d;").bestWay(0, 1, 0), 1);
        Kit.due("16 nothing changes", Kit.everything(x), before);
        x.pass(12);
        Kit.due("16 by the bell", x.bestWay(1, 3, 0), 2);
        Kit.due("16 a sign ahead of the bell", x.bestWay(1, 0, 0), 0);
        Run full = Kit.house("paper 0;need a 20;elder b;elder c;");
        for (int i = 0; i < 12; i++) {
            Kit.due("16 by voice alone", full.bestWay(0, 1, 0), 2);
            full.tell(0, 1, 0, 2);
        }
        Kit.due("16 none", full.bestWay(0, 1, 0), SilentMonks.NONE);
        full.set(2, 1);
        Kit.due("16 too little paper", full.bestWay(0, 1, 0), SilentMonks.NONE);
        full.set(2, 2);
        Kit.due("16 a slip alone", full.bestWay(0, 1, 0), 1);
        for (int wrong : WRONG) {
            Kit.throwsIndex("16 from " + wrong, () -> x.bestWay(wrong, 0, 0));
            Kit.throwsIndex("16 to " + wrong, () -> x.bestWay(0, wrong, 0));
            Kit.throwsIndex("16 need " + wrong, () -> x.bestWay(0, 0, wrong));
        }
        Kit.throwsIndex("16 need 3", () -> x.bestWay(0, 0, 3));
        Kit.throwsArgument("16 the same", () -> x.bestWay(2, 2, 0));
    }

    private static void promise17SpeechIn() {
        Kit.due("17 no bell", new Run().speechIn(), SilentMonks.NONE);
        Run x = Kit.house("need a 1;elder b;bell 6 silence;");
        Kit.due("17 only silence", x.speechIn(), SilentMonks.NONE);
        x.setBell(5, 2);
        Kit.due("17 in five hours", x.speechIn(), 5);
        x.pass(5);
        Kit.due("17 now", x.speechIn(), 0);
        x.pass(1);
        Kit.due("17 tomorrow", x.speechIn(), 23);
        x.setBell(3, 2);
        Kit.due("17 the nearest one", x.speechIn(), 21);
        Kit.passTo(x, 9999);
        x.setBell(15, 1);
        Kit.due("17 behind the TIME 9999", x.speechIn(), 12);
    }

    private static void promise18FastIn() {
        Run x = Kit.house("need a 20;need b 1;elder c;brother d;brother e;tell c d a voice;wait 30;tell d c b voice;");
        Kit.due("18 now", x.fastIn(0), 9);
        int[][] due = {{17, 9}, {18, 8}, {41, 8}, {42, 6}, {66, 5}, {186, 0}, {185, 1}, {999, 0}};
        for (int[] pair : due) {
            Kit.due("18 behind " + pair[0], x.fastIn(pair[0]), pair[1]);
        }
        Kit.due("18 nothing changes", x.count(4), 30);
        for (int hours : new int[] {-1, 1000, Integer.MIN_VALUE, Integer.MAX_VALUE}) {
            Kit.throwsArgument("18 hours " + hours, () -> x.fastIn(hours));
        }
        Run late = Kit.house("need a 1;elder c;brother d;");
        Kit.passTo(late, 9999);
        late.tell(0, 1, 0, 2);
        Kit.due("18 behind the TIME 9999, the day of the breach", late.fastIn(9), 2);
        Kit.due("18 behind the TIME 9999, a day later", late.fastIn(33), 1);
    }

    private static void promise19FreeIn() {
        Run x = Kit.house("need a 20;elder c;brother d;brother e;tell c d a voice;");
        Kit.due("19 none", x.freeIn(1), 0);
        Run one = Kit.house("need a 1;brother c;brother d;wait 5;tell c d a voice;");
        Kit.due("19 none at hour 5", one.freeIn(1), 0);
        Kit.due("19 a day of fast behind the day of the breach", one.freeIn(0), 43);
        one.pass(20);
        Kit.due("19 a day of fast", one.freeIn(0), 23);
        one.pass(23);
        Kit.due("19 kept", one.freeIn(0), 0);
        Kit.due("19 behind the day of the breach", x.freeIn(0), 9 * 24);
        x.pass(23);
        Kit.due("19 an hour ahead of midnight", x.freeIn(0), 9 * 24 - 23);
        x.pass(1);
        Kit.due("19 at midnight", x.freeIn(0), 8 * 24);
        x.tell(0, 1, 0, 2);
        Kit.due("19 twice", x.freeIn(0), 17 * 24);
        Kit.passTo(x, 9999);
        x.tell(0, 1, 0, 2);
        Kit.due("19 behind the TIME 9999", x.freeIn(0), 9 + 8 * 24);
        for (int wrong : WRONG) {
            Kit.throwsIndex("19 monk " + wrong, () -> x.freeIn(wrong));
        }
        Kit.throwsIndex("19 monk 3", () -> x.freeIn(3));
    }

    private static void promise20BestBell() {
        Kit.due("20 without any", new Run().bestBell(), 0);
        Kit.due("20 behind the bell of silence", Kit.house("need a 1;elder b;bell 7 silence;").bestBell(), 7);
        Kit.due("20 the first hours", Kit.house("need a 1;elder b;bell 1 silence;").bestBell(), 1);
        Kit.due("20 the last hours", Kit.house("need a 1;elder b;bell 23 silence;").bestBell(), 23);
        Kit.due("20 always speech", Kit.house("need a 1;elder b;bell 7 speech;").bestBell(), 0);
        Kit.due("20 the longer silence",
            Kit.house("need a 1;elder b;bell 7 silence;bell 9 speech;bell 11 silence;bell 14 speech;").bestBell(), 11);
        Kit.due("20 the least of several",
            Kit.house("need a 1;elder b;bell 7 silence;bell 9 speech;bell 11 silence;bell 13 speech;").bestBell(), 7);
        Kit.due("20 over midnight",
            Kit.house("need a 1;elder b;bell 22 silence;bell 3 speech;bell 10 silence;bell 12 speech;").bestBell(), 22);
        Run x = Kit.house("need a 1;elder b;bell 23 silence;bell 2 silence;");
        Kit.due("20 two of silence", x.bestBell(), 2);
        Kit.due("20 nothing changes", x.count(6) + x.bell(2), 3);
    }

    private static void promise21BestHearer() {
        Kit.due("21 the only one", new Run().bestHearer(), 0);
        Kit.due("21 no wants", Kit.house(HOUSE).bestHearer(), 0);
        Kit.due("21 the wants of novices and brothers",
            Kit.house(HOUSE + "want nil salt;want bo milk;want bo salt;").bestHearer(), 2);
        Kit.due("21 a lower rank meets none", Kit.house(HOUSE + "want el salt;want el milk;want nil salt;").bestHearer(), 1);
        Kit.due("21 not to itself", Kit.house(HOUSE + "want bo salt;want el salt;want el bread;").bestHearer(), 2);
        Kit.due("21 the teller's sign", Kit.house("need a 1;brother b;brother c a;want b a;").bestHearer(), 0);
        Kit.due("21 the same rank", Kit.house("need a 1;brother b a;brother c a;want b a;").bestHearer(), 1);
        Kit.due("21 the lowest one", Kit.house("need a 1;brother b a;elder c a;elder d a;want b a;").bestHearer(), 1);
        Kit.due("21 most wants, not most monks", Kit.house("need a 1;need e 1;need f 1;need h 1;novice b a e f h;"
            + "novice c a;brother d a;brother g e f h;want b a;want c a;want b e;want b f;want b h;").bestHearer(), 3);
        Run x = Kit.house(HOUSE + "want nil salt;");
        x.bestHearer();
        Kit.due("21 nothing changes", x.count(8), 1);
    }

    private static void promise22Want() {
        Run x = Kit.house(HOUSE);
        Kit.due("22 one", x.want(0, 1), 1);
        Kit.due("22 two", x.want(0, 0), 2);
        String before = Kit.everything(x);
        Kit.due("22 it wants it", x.want(0, 1), -11);
        Kit.due("22 a refused call changes nothing", Kit.everything(x) + x.count(12), before + 3);
        Kit.due("22 another one's", x.want(3, 1), 1);
        Kit.due("22 has it", x.has(3, 1, true), true);
        for (int wrong : WRONG) {
            Kit.throwsIndex("22 monk " + wrong, () -> x.want(wrong, 0));
            Kit.throwsIndex("22 need " + wrong, () -> x.want(0, wrong));
        }
        Kit.throwsIndex("22 monk 4", () -> x.want(4, 1));
        Kit.throwsIndex("22 need 3", () -> x.want(0, 3));
        Kit.due("22 undone", x.undo(), 3);
        Kit.due("22 all as before", Kit.everything(x), before);
    }

    private static void promise23TellBySign() {
        Run x = Kit.house(HOUSE + "want nil salt;want el salt;");
        Kit.due("23 both know one", x.tell(0, 2, 0, 0), 1);
        Kit.due("23 the want is met", x.has(0, 0, true), false);
        Kit.due("23 both know two", x.tell(2, 1, 0, 0), 2);
        Kit.due("23 a lower rank does not meet it", x.has(2, 0, true), true);
        Kit.due("23 no one learns by signs", x.account(13), 0);
        String before = Kit.everything(x);
        Kit.due("23 the teller does not know it", x.tell(3, 2, 0, 0), -12);
        Kit.due("23 none of both", x.tell(3, 0, 2, 0), -12);
        Kit.due("23 the other one does not", x.tell(2, 3, 0, 0), -13);
        Kit.due("23 refused signs change nothing", Kit.everything(x), before);
    }

    private static void promise23TellBySlip() {
        Run x = Kit.house("paper 7;" + HOUSE + "want bo milk;want bo bread;want bo salt;want old milk;");
        Kit.due("23 a brother's page", x.tell(1, 0, 0, 1), 1);
        Kit.due("23 a novice meets no want of a brother", x.has(1, 0, true), true);
        Kit.due("23 two pages", x.tell(1, 3, 1, 1), 2);
        Kit.due("23 an elder meets it", x.has(1, 1, true), false);
        Kit.due("23 and learns the sign", x.has(3, 1, false), true);
        Kit.due("23 one sign was learned", x.account(13), 1);
        Kit.due("23 a sign that the teller does not know", x.tell(1, 3, 2, 1), 2);
        Kit.due("23 is not learned", x.has(3, 2, false), false);
        Kit.due("23 but the want is met", x.has(1, 2, true), false);
        Kit.due("23 paper", x.count(2), 2);
        Kit.due("23 a novice's page is two", x.tell(0, 3, 0, 1), 2);
        Kit.due("23 learned again", x.account(13), 2);
        String before = Kit.everything(x);
        Kit.due("23 no paper", x.tell(1, 3, 0, 1), -14);
        x.set(2, 3);
        Kit.due("23 a novice's two are four", x.tell(0, 3, 1, 1), -14);
        Kit.due("23 refused slips change nothing", x.undo() + Kit.everything(x), 5 + before);
        x.set(2, 4);
        Kit.due("23 all the paper", x.tell(0, 3, 1, 1), 4);
        Kit.due("23 nothing is left", x.count(2), 0);
        Kit.due("23 who knows it already learns nothing", x.account(13), 2);
        x.set(2, 9);
        Kit.due("23 the same rank meets it", x.tell(3, 2, 1, 1) + x.monk(3, 6), 2);
    }

    private static void promise23TellByVoice() {
        Run x = Kit.house("grant 50;" + HOUSE + "bell 12 speech;bell 13 silence;give el bo 15;give el old 5;want bo milk;");
        Kit.due("23 by leave", x.tell(1, 2, 1, 2), 0);
        Kit.due("23 leave that is left", x.monk(1, 1), 3);
        Kit.due("23 no breach", x.monk(1, 4), 0);
        Kit.due("23 met by voice", x.has(1, 1, true), false);
        Kit.due("23 17 in a breach of a brother", x.tell(1, 0, 2, 2), 4);
        Kit.due("23 no leave is left", x.monk(1, 1), 0);
        Kit.due("23 it broke silence", x.monk(1, 4), 1);
        Kit.due("23 the novice learns nothing", x.monk(0, 5), 1);
        Kit.due("23 15 in a breach of an elder", x.tell(3, 0, 2, 2), 6);
        Kit.due("23 a novice's salt", x.tell(0, 3, 0, 2), 1);
        Kit.due("23 an elder learns it", x.has(3, 0, false), true);
        x.pass(12);
        Kit.due("23 in speech", x.tell(1, 0, 2, 2), 0);
        Kit.due("23 fast stays in speech", x.monk(1, 2), 4);
        Kit.due("23 words by the bell", x.account(4), 20);
        x.pass(1);
        for (int fast = 8; fast <= 96; fast += 8) {
            Kit.due("23 an elder's bread", x.tell(2, 0, 2, 2), 8);
        }
        String before = Kit.everything(x);
        Kit.due("23 above 99", x.tell(2, 0, 2, 2), -15);
        Kit.due("23 refused words change nothing", Kit.everything(x), before);
        Kit.due("23 to 98", x.tell(2, 0, 0, 2), 2);
        Kit.due("23 to 100", x.tell(2, 0, 0, 2), -15);
        Run brother = Kit.house("need a 20;need b 11;need c 1;brother d;brother e;");
        for (int i = 0; i < 24; i++) {
            brother.tell(0, 1, 0, 2);
        }
        Kit.due("23 to 99", brother.tell(0, 1, 1, 2), 3);
        Kit.due("23 99 days", brother.monk(0, 2), 99);
        Kit.due("23 to 100 by a word", brother.tell(0, 1, 2, 2), -15);
        brother.setBell(0, 2);
        Kit.due("23 at 99 in speech", brother.tell(0, 1, 0, 2), 0);
    }

    private static void promise23TellWrong() {
        Run x = Kit.house(HOUSE);
        String before = Kit.everything(x);
        for (int wrong : WRONG) {
            Kit.throwsIndex("23 from " + wrong, () -> x.tell(wrong, 0, 0, 9));
            Kit.throwsIndex("23 to " + wrong, () -> x.tell(0, wrong, 0, 9));
            Kit.throwsIndex("23 need " + wrong, () -> x.tell(0, 0, wrong, 9));
            Kit.throwsArgument("23 way " + wrong, () -> x.tell(0, 1, 0, wrong));
        }
        Kit.throwsArgument("23 the same", () -> x.tell(1, 1, 0, 2));
        Kit.throwsArgument("23 way 3", () -> x.tell(3, 0, 0, 3));
        Kit.throwsIndex("23 monk 4", () -> x.tell(4, 4, 0, 0));
        Kit.throwsIndex("23 need 3", () -> x.tell(1, 1, 3, 0));
        Kit.due("23 thrown calls change nothing", Kit.everything(x) + x.count(12), before + 1);
    }

    private static void promise24Give() {
        Run x = Kit.house("grant 50;" + HOUSE);
        x.give(2, 1, 7);
        Kit.due("24 undone", x.undo() + x.monk(2, 3) + x.monk(1, 1) + x.account(10), 1);
        Run one = Kit.house(HOUSE + "tell el bo salt voice;wait 24;wait 24;");
        Kit.due("24 one day of fast", one.give(2, 1, 1) + one.monk(2, 2), -16);
        Kit.due("24 of the other one", one.give(3, 2, 1), -18);
        Kit.due("24 no day of fast", one.pass(24) + one.give(2, 1, 1), 2);
        Kit.due("24 leave", x.give(2, 1, 7), 7);
        Kit.due("24 more leave", x.give(3, 1, 50), 57);
        Kit.due("24 of another elder", x.give(2, 3, 1), 1);
        Kit.due("24 given", x.monk(2, 3), 8);
        Kit.due("24 above the grant", x.give(3, 0, 1), -19);
        Kit.due("24 up to the grant", x.give(2, 1, 42), 99);
        x.set(3, 49);
        Kit.due("24 given stays", x.monk(2, 3), 50);
        Kit.due("24 above the new grant, too", x.give(2, 0, 1), -19);
        Kit.due("24 the grant is the lower reason", x.give(2, 1, 1), -19);
        x.pass(24);
        x.give(2, 1, 49);
        x.set(3, 50);
        Kit.due("24 up to 98", x.give(3, 1, 49), 98);
        Kit.due("24 up to 99 by another one", x.give(2, 1, 1), 99);
        Kit.due("24 above 99", x.give(3, 1, 1), -20);
        Kit.due("24 no elder", x.give(1, 0, 1), -16);
        String before = Kit.everything(x);
        Kit.due("24 a novice", x.give(0, 1, 50), -16);
        Kit.due("24 refused, nothing changes", Kit.everything(x), before);
        x.pass(24);
        x.tell(2, 0, 0, 2);
        Kit.due("24 the elder fasts", x.give(2, 1, 50), -17);
        Kit.due("24 the other one does", x.give(3, 2, 50), -18);
        x.tell(1, 0, 0, 2);
        Kit.due("24 no elder is the lower reason", x.give(1, 2, 50), -16);
        Kit.due("24 both fast", x.give(2, 1, 1), -17);
        x.set(3, 0);
        Kit.due("24 the fast is lower than the grant", x.give(3, 2, 1), -18);
        Kit.due("24 the grant 0", x.give(3, 0, 1), -19);
        for (int wrong : WRONG) {
            Kit.throwsIndex("24 from " + wrong, () -> x.give(wrong, 0, 0));
            Kit.throwsIndex("24 to " + wrong, () -> x.give(0, wrong, 0));
            Kit.throwsArgument("24 words " + wrong, () -> x.give(0, 1, wrong));
        }
        Kit.throwsIndex("24 monk 4", () -> x.give(4, 4, 1));
        Kit.throwsArgument("24 the same", () -> x.give(3, 3, 1));
        Kit.throwsArgument("24 words 0", () -> x.give(3, 0, 0));
        Kit.throwsArgument("24 words 51", () -> x.give(3, 0, 51));
    }

    private static void promise25Pass() {
        Run x = Kit.house("need a 20;need b 5;elder c;brother d;brother e;give c e 7;tell c d b voice;tell d c a voice;");
        Kit.due("25 no day", x.pass(23), 0);
        Kit.due("25 leave stays", x.monk(2, 1), 7);
        Kit.due("25 undone", x.undo() + x.count(4), 1);
        x.pass(23);
        Kit.due("25 a day", x.pass(1), 1);
        Kit.due("25 the day of the breach", x.count(10), 6);
        Kit.due("25 leave expires", x.count(9), 0);
        Kit.due("25 what expired", x.account(11), 7);
        Kit.due("25 four days", x.pass(99), 4);
        Kit.due("25 kept", x.count(10), 0);
        Kit.due("25 kept, no more than there were", x.account(9), 6);
        Kit.due("25 three hours to midnight", x.pass(21), 1);
        Kit.passTo(x, 9950);
        String before = Kit.everything(x);
        Kit.due("25 above 9999", x.pass(50), -21);
        Kit.due("25 nothing changes", Kit.everything(x), before);
        Kit.due("25 to 9999", x.pass(49), 2);
        Kit.due("25 9999", x.count(4), 9999);
        Kit.due("25 at the end", x.pass(1), -21);
        for (int hours : new int[] {0, -1, 100, Integer.MIN_VALUE, Integer.MAX_VALUE}) {
            Kit.throwsArgument("25 hours " + hours, () -> x.pass(hours));
        }
    }

    private static void promise26SetBell() {
        Run x = new Run();
        Kit.due("26 none before", x.setBell(23, 2), 0);
        Kit.due("26 speech all day", x.count(7), 24);
        Kit.due("26 speech before", x.setBell(23, 1), 2);
        Kit.due("26 silence before", x.setBell(23, 1), 1);
        Kit.due("26 a change, though nothing is another one", x.count(12), 3);
        Kit.due("26 none again", x.setBell(23, 0), 1);
        Kit.due("26 no bell", x.count(6), 0);
        Kit.due("26 hour 0", x.setBell(0, 2), 0);
        for (int wrong : WRONG) {
            Kit.throwsIndex("26 hour " + wrong, () -> x.setBell(wrong, wrong));
            Kit.throwsArgument("26 bell " + wrong, () -> x.setBell(0, wrong));
        }
        Kit.throwsIndex("26 hour 24", () -> x.setBell(24, 0));
        Kit.throwsArgument("26 bell 3", () -> x.setBell(0, 3));
        Kit.due("26 undone", x.undo(), 4);
        Kit.due("26 no bell at hour 0", x.bell(0), 0);
    }

    private static void promise27Set() {
        Run x = new Run();
        Kit.due("27 paper before", x.set(2, 99), 20);
        Kit.due("27 grant before", x.set(3, 50), 10);
        Kit.due("27 paper 99", x.set(2, 0), 99);
        Kit.due("27 grant 50", x.set(3, 0), 50);
        Kit.due("27 paper 0", x.count(2), 0);
        Kit.due("27 grant 0", x.count(3), 0);
        Kit.due("27 the same is a change", x.set(3, 0) + x.count(12), 5);
        for (int what : new int[] {-1, 0, 1, 4, 5, Integer.MIN_VALUE, Integer.MAX_VALUE}) {
            Kit.throwsArgument("27 what " + what, () -> x.set(what, 1));
        }
        for (int value : new int[] {-1, 100, Integer.MIN_VALUE, Integer.MAX_VALUE}) {
            Kit.throwsArgument("27 paper " + value, () -> x.set(2, value));
            Kit.throwsArgument("27 grant " + value, () -> x.set(3, value));
        }
        Kit.throwsArgument("27 grant 51", () -> x.set(3, 51));
        Kit.due("27 thrown calls are no changes", x.count(12), 5);
        x.undo();
        x.undo();
        Kit.due("27 undone", x.count(3), 50);
    }

    private static void promise28Undo() {
        Run x = Kit.house(HOUSE);
        x.undo();
        Kit.throwsState("28 nothing", () -> x.undo());
        Kit.load(x, HOUSE + "bell 5 silence;");
        String[] before = new String[12];
        for (int i = 0; i < 12; i++) {
            before[i] = Kit.everything(x);
            change(x, i);
        }
        Kit.due("28 the latest 8", x.count(12), 8);
        for (int left = 7; left >= 4; left--) {
            Kit.due("28 undone", x.undo(), left);
            Kit.due("28 as before", Kit.everything(x), before[left + 4]);
        }
        Kit.due("28 a change behind undone ones", x.pass(1) + x.count(12), 5);
        for (int left = 4; left >= 0; left--) {
            Kit.due("28 undone, too", x.undo(), left);
        }
        Kit.due("28 as ahead of the latest 8", Kit.everything(x), before[4]);
        Kit.throwsState("28 older ones cannot", () -> x.undo());
        Kit.due("28 the count", x.count(12), 0);
        Kit.due("28 a refused call", x.tell(3, 0, 0, 0) + x.count(12), -12);
        x.append(0x61000000, 0, 0, 0, 0);
        int length = x.writeMonk(0);
        String text = Kit.writtenText(x, length);
        x.want(0, 1);
        x.undo();
        Kit.due("28 the text buffer stays", x.append(0, 0, 0, 0, 0), 1);
        Kit.due("28 the written text stays", Kit.writtenText(x, length), text);
    }

    /** Twelve changes of all sorts. */
    private static void change(Run x, int i) {
        switch (i % 12) {
            case 0: x.want(0, 0); break;
            case 1: x.tell(0, 2, 0, 0); break;
            case 2: x.give(2, 1, 4); break;
            case 3: x.tell(1, 0, 1, 2); break;
            case 4: x.tell(2, 3, 2, 1); break;
            case 5: x.setBell(3, 2); break;
            case 6: x.pass(27); break;
            case 7: x.set(2, 7); break;
            case 8: x.save(1); x.set(3, 7); break;
            case 9: x.restore(1); break;
            case 10: Kit.load(x, "need a 7;brother b;brother c;tell b c a voice;"); break;
            default: x.tell(1, 0, 0, 2); break;
        }
    }

    private static void promise29Save() {
        Run x = Kit.house(HOUSE);
        x.pass(5);
        String first = Kit.everything(x);
        x.save(0);
        Kit.due("29 no change", x.count(12), 2);
        x.undo();
        Kit.due("29 undo leaves what was saved", x.restore(0), 5);
        x.pass(6);
        String second = Kit.everything(x);
        x.save(1);
        Kit.due("29 the one slot", x.restore(0), 5);
        Kit.due("29 all of it", Kit.everything(x), first);
        Kit.due("29 the other slot", x.restore(1), 11);
        Kit.due("29 all of that", Kit.everything(x), second);
        x.save(0);
        Kit.due("29 in place of it", x.restore(0), 11);
        for (int slot : new int[] {-1, 2, Integer.MIN_VALUE, Integer.MAX_VALUE}) {
            Kit.throwsIndex("29 slot " + slot, () -> x.save(slot));
        }
    }

    private static void promise30Restore() {
        Run x = Kit.house(HOUSE + "wait 3;");
        Kit.throwsState("30 nothing saved", () -> x.restore(0));
        x.save(0);
        Kit.throwsState("30 nothing saved there", () -> x.restore(1));
        for (int slot : new int[] {-1, 2, Integer.MIN_VALUE, Integer.MAX_VALUE}) {
            Kit.throwsIndex("30 slot " + slot, () -> x.restore(slot));
        }
        Kit.due("30 no change", x.count(12), 1);
        String saved = Kit.everything(x);
        change(x, 0);
        change(x, 3);
        x.pass(9);
        String before = Kit.everything(x);
        Kit.due("30 TIME", x.restore(0), 3);
        Kit.due("30 all of it", Kit.everything(x), saved);
        Kit.due("30 a change", x.count(12), 5);
        x.undo();
        Kit.due("30 undone", Kit.everything(x), before);
        Kit.due("30 it stays saved", x.restore(0), 3);
        change(x, 3);
        Kit.due("30 what changes then is not saved", x.restore(0), 3);
        Kit.due("30 all of it again", Kit.everything(x), saved);
        Kit.load(x, "need a 1;elder b;");
        Kit.due("30 behind load", x.restore(0), 3);
        Kit.due("30 another house", Kit.everything(x), saved);
    }

    private static void promise31WriteMonk() {
        Run x = Kit.house("need zzzzzz 4;need m 12;need abcdef 20;novice nil;brother brotha abcdef zzzzzz;"
            + "elder elder m;want brotha m;want brotha abcdef;want nil zzzzzz;");
        Kit.due("31 no signs", Kit.monkText(x, 0), "nil:/zzzzzz");
        Kit.due("31 by their numbers", Kit.monkText(x, 1), "brotha:zzzzzz abcdef/m abcdef");
        Kit.due("31 no wants", Kit.monkText(x, 2), "elder:m/");
        x.want(2, 1);
        Kit.due("31 in place of what was written", x.writtenByte(7), 47);
        Run longest = Kit.house("need aaaaaa 1;need bbbbbb 1;need cccccc 1;need dddddd 1;need eeeeee 1;need ffffff 1;"
            + "need gggggg 1;need hhhhhh 1;elder iiiiii aaaaaa bbbbbb cccccc dddddd eeeeee ffffff gggggg hhhhhh;"
            + "want iiiiii aaaaaa;want iiiiii bbbbbb;want iiiiii cccccc;want iiiiii dddddd;want iiiiii eeeeee;"
            + "want iiiiii ffffff;want iiiiii gggggg;want iiiiii hhhhhh;");
        String all = "aaaaaa bbbbbb cccccc dddddd eeeeee ffffff gggggg hhhhhh";
        Kit.due("31 the longest one", Kit.monkText(longest, 0), "iiiiii:" + all + "/" + all);
        for (int wrong : WRONG) {
            Kit.throwsIndex("31 monk " + wrong, () -> x.writeMonk(wrong));
        }
        Kit.throwsIndex("31 monk 3", () -> x.writeMonk(3));
        Kit.due("31 a thrown call leaves the text", Kit.writtenText(x, 8), "elder:m/");
    }

    private static void promise32WriteDay() {
        Run x = new Run();
        Kit.due("32 no bell", Kit.dayText(x), "......................../0");
        x.setBell(3, 2);
        Kit.due("32 speech alone", Kit.dayText(x), "ssssssssssssssssssssssss/0");
        x.setBell(21, 1);
        x.setBell(5, 1);
        x.setBell(22, 2);
        x.pass(10);
        Kit.due("32 over midnight", Kit.dayText(x), "sssss.................ss/10");
        Kit.passTo(x, 1005);
        Kit.due("32 zeros in TIME", Kit.dayText(x), "sssss.................ss/1005");
        Kit.passTo(x, 9999);
        Kit.due("32 the last hour", Kit.dayText(x), "sssss.................ss/9999");
        Kit.due("32 the length", x.writeDay(), 29);
    }

    private static void promise33WrittenByte() {
        Run x = new Run();
        Kit.throwsIndex("33 none at first", () -> x.writtenByte(0));
        Kit.due("33 the length", x.writeDay(), 26);
        Kit.due("33 the first", x.writtenByte(0), 46);
        Kit.due("33 the slash", x.writtenByte(24), 47);
        Kit.due("33 the last", x.writtenByte(25), 48);
        Kit.due("33 a shorter text", x.writeMonk(0), 3);
        Kit.due("33 its last", x.writtenByte(2), 47);
        for (int index : new int[] {-1, 3, 25, Integer.MIN_VALUE, Integer.MAX_VALUE}) {
            Kit.throwsIndex("33 index " + index, () -> x.writtenByte(index));
        }
    }

    /** Every call in a house with as many monks and needs as there may be, for its last monk and need. */
    private static void fullHouse() {
        StringBuilder text = new StringBuilder();
        for (int need = 0; need < 8; need++) {
            text.append("need ").append((char) ('a' + need)).append(" 20;");
        }
        for (int monk = 0; monk < 12; monk++) {
            text.append("elder ").append((char) ('a' + monk)).append(" a b c d e f g h;");
        }
        Run x = Kit.house(text.toString());
        for (int need = 0; need < 8; need++) {
            Kit.due("full want", x.want(11, need), need + 1);
        }
        Kit.due("full wants", x.count(8), 8);
        Kit.due("full signs", x.count(11), 96);
        Kit.due("full monks who know", x.need(7, 1), 12);
        Kit.due("full monks who want", x.need(7, 2), 1);
        Kit.due("full others", x.monk(11, 7), 11);
        Kit.due("full best hearer", x.bestHearer(), 0);
        Kit.due("full best way", x.bestWay(11, 0, 7), 0);
        Kit.due("full give", x.give(11, 10, 10), 10);
        Kit.due("full tell", x.tell(11, 0, 7, 2), 8);
        Kit.due("full why", x.why(11, 0, 7, 2, 1), 20);
        Kit.due("full ranked 0", x.ranked(0), 11);
        Kit.due("full ranked 1", x.ranked(1), 10);
        Kit.due("full ranked 11", x.ranked(11), 9);
        Kit.due("full ranked 12", x.ranked(12), SilentMonks.NONE);
        Kit.due("full days", x.pass(48), 2);
        Kit.due("full fast", x.fastIn(24), 6);
        Kit.due("full free", x.freeIn(11), 7 * 24);
        Kit.due("full fast of all", x.count(10), 7);
        Kit.due("full text", Kit.monkText(x, 11), "l:a b c d e f g h/a b c d e f g");
        Kit.throwsIndex("full monk 12", () -> x.monk(12, 0));
        Kit.throwsIndex("full need 8", () -> x.need(8, 0));
        Kit.throwsIndex("full has", () -> x.has(11, 8, false));
        Kit.due("full gap", x.gap(), 0);
    }
}
