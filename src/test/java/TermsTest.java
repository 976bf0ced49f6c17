/**
 * The document's sections 1, 2, 3, 5 and 6: each sentence that names an edge has a method of its own here, with the
 * sentence ahead of it. Section 4 is in TextErrorsTest.
 */
public final class TermsTest {

    private static final int BOUND = 24;

    public static void main(String[] args) {
        manyCalls();
        monksNeedsBells();
        telling();
        leaveAndDays();
        changes();
        refusals();
        severalReasons();
        Kit.end();
    }

    /** "An object is used for at most 512 calls after it has been made": up to the last one it answers. */
    private static void manyCalls() {
        Run x = new Run();
        for (int i = 1; i <= 502; i++) {
            Kit.due("change " + i, x.setBell(i % 24, 1 + i / 24 % 2), i <= 24 ? 0 : 2 - i / 24 % 2);
        }
        for (int left = 7; left >= 0; left--) {
            Kit.due("undo behind many changes", x.undo(), left);
        }
        Kit.due("no more behind many changes", Kit.thrownBy(() -> x.undo()), "IllegalStateException");
        Kit.due("the 512th call", x.count(6), 24);
        Kit.due("objects for all of them", x.objectsUsed(), 1);
    }

    // ---- section 1

    private static void monksNeedsBells() {
        divisions();
        numberOfMonks();
        namesOfMonks();
        ranks();
        leaveAtFirst();
        leaveAtMost();
        leaveAtLeast();
        fastAtFirst();
        fastAtMost();
        fastAtLeast();
        givenOnThisDay();
        brokeOnThisDay();
        numberOfNeeds();
        wordsOfNeeds();
        paperAndGrant();
        timeAtFirst();
        timeAtMost();
        hourOfTheDay();
        bellsAtEachHour();
        oneBellAlone();
        latestBell();
        noBell();
    }

    /** "divisions are rounded down" */
    private static void divisions() {
        Run x = Kit.house("need a 1;need b 10;need c 11;need d 5;need e 6;elder f;");
        Kit.due("10 / 10", x.need(0, 3), 1);
        Kit.due("19 / 10", x.need(1, 3), 1);
        Kit.due("20 / 10", x.need(2, 3), 2);
        Kit.due("5 / 5", x.need(0, 4), 1);
        Kit.due("9 / 5", x.need(3, 4), 1);
        Kit.due("10 / 5", x.need(4, 4), 2);
    }

    /** "1 to 12 monks, numbered from 0" */
    private static void numberOfMonks() {
        Run none = new Run();
        Kit.due("no monk", Kit.load(none, "need a 1;"), SilentMonks.SYNTAX_ERROR);
        Kit.due("no monk, the place", none.errorPosition(), 9);
        for (int count = 1; count <= 12; count++) {
            Run x = Kit.house("need n 1;" + Kit.monks(count));
            int last = count - 1;
            int behind = count;
            Kit.due("monks", x.count(0), count);
            Kit.due("the first one", Kit.monkText(x, 0), "a:/");
            Kit.due("the last one", Kit.monkText(x, last), (char) ('a' + last) + ":/");
            Kit.throwsIndex("one behind the last one of " + count, () -> x.monk(behind, 0));
            Kit.throwsIndex("one ahead of the first one of " + count, () -> x.monk(-1, 0));
        }
        Run many = new Run();
        Kit.due("13 monks", Kit.load(many, "need n 1;" + Kit.monks(13)), SilentMonks.TOO_MANY);
        Kit.due("13 monks, there are", many.count(0), 1);
    }

    /** "each with a name (all different)", of monks and, by themselves, of needs. */
    private static void namesOfMonks() {
        Run x = new Run();
        Kit.due("names of two", Kit.load(x, "need a 1;elder b;elder c;"), 2);
        Kit.due("a name of two monks", Kit.load(x, "need a 1;elder b;elder b;"), SilentMonks.TWICE);
        Kit.due("a name of two needs", Kit.load(x, "need a 1;need a 1;elder b;"), SilentMonks.TWICE);
        Kit.due("a name of a need and a monk", Kit.load(x, "need a 1;elder a;"), 1);
        Kit.due("a name that begins like another one", Kit.load(x, "need a 1;need aa 1;elder aaa;elder aaaa;"), 2);
        Kit.due("the same letters in another order", Kit.load(x, "need ab 1;need ba 1;elder ab;elder ba;"), 2);
        Kit.due("names of six letters", Kit.load(x, "need a 1;elder abcdef;elder abcdeg;elder bbcdef;"), 3);
        Kit.due("the last one of them", Kit.monkText(x, 2), "bbcdef:/");
        Kit.due("the same six letters", Kit.load(x, "need a 1;elder zzzzzz;elder zzzzzz;"), SilentMonks.TWICE);
    }

    /** "a RANK (0 novice, 1 brother, 2 elder)" */
    private static void ranks() {
        Run x = Kit.house("need a 1;elder b;novice c;brother d;");
        Kit.due("an elder", x.monk(0, 0), 2);
        Kit.due("a novice", x.monk(1, 0), 0);
        Kit.due("a brother", x.monk(2, 0), 1);
    }

    /** "LEAVE (0 to 99 words, 0 at first)" */
    private static void leaveAtFirst() {
        Run x = Kit.house("need a 1;elder b;novice c;");
        Kit.due("leave of the first", x.monk(0, 1), 0);
        Kit.due("leave of the second", x.monk(1, 1), 0);
        Kit.due("leave of all", x.count(9), 0);
    }

    /** "LEAVE (0 to 99 words, 0 at first)": 99 can be, 100 cannot. */
    private static void leaveAtMost() {
        Run x = Kit.house("grant 50;need a 1;elder b;elder c;novice d;give b d 50;give c d 48;");
        Kit.due("98", x.monk(2, 1), 98);
        Kit.changesNothing("100", x, y -> y.give(1, 2, 2), -20);
        Kit.due("99", x.give(1, 2, 1), 99);
        Kit.due("99 of all", x.count(9), 99);
        Kit.changesNothing("99 and 1", x, y -> y.give(1, 2, 1), -20);
    }

    /** "LEAVE (0 to 99 words, 0 at first)": speaking takes no more of it than there is. */
    private static void leaveAtLeast() {
        Run x = Kit.house("need a 3;elder b;novice c;give b c 4;");
        x.tell(1, 0, 0, 2);
        Kit.due("4 less 3", x.monk(1, 1), 1);
        x.tell(1, 0, 0, 2);
        Kit.due("1 less 3", x.monk(1, 1), 0);
        x.tell(1, 0, 0, 2);
        Kit.due("0 less 3", x.monk(1, 1), 0);
    }

    /** "FAST (0 to 99 days, 0 at first)" */
    private static void fastAtFirst() {
        Run x = Kit.house("need a 1;elder b;novice c;");
        Kit.due("fast of the first", x.monk(0, 2), 0);
        Kit.due("fast of the second", x.monk(1, 2), 0);
        Kit.due("fast of all", x.count(10), 0);
    }

    /** "FAST (0 to 99 days, 0 at first)": 99 can be, 100 cannot. */
    private static void fastAtMost() {
        Run x = Kit.house("need a 20;need b 6;need c 5;brother d;brother e;" + "tell d e a voice;".repeat(24));
        Kit.due("96", x.monk(0, 2), 96);
        Kit.changesNothing("100", x, y -> y.tell(0, 1, 0, 2), -15);
        Kit.due("98", x.tell(0, 1, 1, 2) + x.monk(0, 2), 100);
        Kit.changesNothing("98 and 2", x, y -> y.tell(0, 1, 1, 2), -15);
        Kit.due("99", x.tell(0, 1, 2, 2) + x.monk(0, 2), 100);
        Kit.changesNothing("99 and 1", x, y -> y.tell(0, 1, 2, 2), -15);
        Run elder = Kit.house("need a 20;need b 5;elder d;brother e;" + "tell d e a voice;".repeat(12));
        Kit.due("an elder's 98", elder.tell(0, 1, 1, 2) + elder.monk(0, 2), 100);
        Kit.changesNothing("an elder's 100", elder, y -> y.tell(0, 1, 1, 2), -15);
    }

    /** "FAST (0 to 99 days, 0 at first)": days that end take no more of it than there is. */
    private static void fastAtLeast() {
        Run x = Kit.house("need a 1;brother b;brother c;tell b c a voice;");
        Kit.due("1 on the day of the breach", x.pass(24) + x.monk(0, 2), 2);
        Kit.due("0 a day later", x.pass(24) + x.monk(0, 2), 1);
        Kit.due("0 two days later", x.pass(24) + x.monk(0, 2), 1);
        Kit.due("one day kept", x.account(9), 1);
        Kit.due("none of who has none", x.monk(1, 2), 0);
    }

    /** "GIVEN (words of leave that it gave on this day)" */
    private static void givenOnThisDay() {
        Run x = Kit.house("need a 1;elder b;elder c;novice d;");
        Kit.due("at first", x.monk(0, 3), 0);
        x.give(0, 1, 3);
        x.give(0, 2, 4);
        x.give(1, 2, 5);
        Kit.due("to both", x.monk(0, 3), 7);
        Kit.due("of the other elder", x.monk(1, 3), 5);
        Kit.due("of who gave none", x.monk(2, 3), 0);
        x.pass(23);
        Kit.due("in the last hour of the day", x.monk(0, 3), 7);
        x.pass(1);
        Kit.due("on the next day", x.monk(0, 3) + x.monk(1, 3), 0);
        Kit.due("all of the grant, again", x.give(0, 2, 10), 10);
        Kit.changesNothing("one more", x, y -> y.give(0, 2, 1), -19);
    }

    /** "whether it BROKE silence on this day" */
    private static void brokeOnThisDay() {
        Run x = Kit.house("need a 1;elder b;elder c;novice d;");
        Kit.due("at first", x.monk(0, 4), 0);
        x.tell(0, 1, 0, 2);
        Kit.due("by a breach", x.monk(0, 4), 1);
        Kit.due("not the one who hears", x.monk(1, 4), 0);
        x.tell(0, 2, 0, 2);
        Kit.due("by two breaches", x.monk(0, 4), 1);
        x.pass(23);
        Kit.due("in the last hour of the day", x.monk(0, 4), 1);
        x.pass(1);
        Kit.due("on the next day", x.monk(0, 4), 0);
    }

    /** "1 to 8 needs, numbered from 0, each with a name (all different)" */
    private static void numberOfNeeds() {
        Run none = new Run();
        Kit.due("no need", Kit.load(none, "elder b;"), SilentMonks.SYNTAX_ERROR);
        Kit.due("no need, the place", none.errorPosition(), 0);
        for (int count = 1; count <= 8; count++) {
            int last = count - 1;
            int behind = count;
            Run x = Kit.house(Kit.needs(count) + "elder m a " + (last > 0 ? (char) ('a' + last) : "") + ";");
            Kit.due("needs", x.count(1), count);
            Kit.due("the first one and the last one", Kit.monkText(x, 0), "m:a" + (last > 0 ? " " + (char) ('a' + last) : "") + "/");
            Kit.due("the last one", x.has(0, last, false), true);
            Kit.throwsIndex("one behind the last one of " + count, () -> x.need(behind, 0));
            Kit.throwsIndex("one ahead of the first one of " + count, () -> x.need(-1, 0));
        }
        Run many = new Run();
        Kit.due("9 needs", Kit.load(many, Kit.needs(9) + "elder m;"), SilentMonks.TOO_MANY);
        Kit.due("9 needs, there are", many.count(1), 1);
    }

    /** "WORDS (1 to 20)" */
    private static void wordsOfNeeds() {
        for (int words = 0; words <= 21; words++) {
            Run x = new Run();
            boolean isRight = words >= 1 && words <= 20;
            Kit.due("a need of words, " + words, Kit.load(x, "need a " + words + ";elder b;"),
                isRight ? 1 : SilentMonks.VALUE_ERROR);
            Kit.due("there are words, " + words, x.need(0, 0), isRight ? words : 1);
        }
    }

    /** "PAPER (0 to 99 pages) and GRANT (0 to 50 words)" */
    private static void paperAndGrant() {
        for (int number = 0; number <= 101; number++) {
            Run x = new Run();
            int value = number;
            boolean isGrant = number <= 50;
            boolean isPaper = number <= 99;
            Kit.due("paper " + number, Kit.load(x, "paper " + number + ";need a 1;elder b;"), isPaper ? 1 : -3);
            Kit.due("pages " + number, x.count(2), isPaper ? number : 20);
            Kit.due("grant " + number, Kit.load(x, "grant " + number + ";need a 1;elder b;"), isGrant ? 1 : -3);
            Kit.due("words " + number, x.count(3), isGrant ? number : 10);
            Run y = new Run();
            Kit.due("set paper " + number, Kit.answerOf(y, z -> z.set(2, value)), isPaper ? 20 : "IllegalArgumentException");
            Kit.due("set grant " + number, Kit.answerOf(y, z -> z.set(3, value)), isGrant ? 10 : "IllegalArgumentException");
            Kit.due("set pages " + number, y.count(2), isPaper ? number : 20);
            Kit.due("set words " + number, y.count(3), isGrant ? number : 10);
        }
    }

    /** "TIME counts hours (0 at first, 9999 at most)" */
    private static void timeAtFirst() {
        Run x = new Run();
        Kit.due("of a new object", x.count(4), 0);
        x.pass(1);
        Kit.due("an hour later", x.count(4), 1);
        Kit.load(x, "need a 1;elder b;");
        Kit.due("of another house", x.count(4), 0);
    }

    /** "TIME counts hours (0 at first, 9999 at most)" */
    private static void timeAtMost() {
        Run x = new Run();
        Kit.passTo(x, 9900);
        Kit.due("9999 in one go", x.pass(99) + x.count(4), 9999 + 4);
        Kit.changesNothing("10000", x, y -> y.pass(1), -21);
        x.undo();
        x.pass(1);
        Kit.changesNothing("10000 in one go", x, y -> y.pass(99), -21);
        Kit.due("9999 again", x.pass(98) + x.count(4), 9999 + 4);
    }

    /** "the day is TIME / 24, the hour TIME modulo 24" */
    private static void hourOfTheDay() {
        Run x = Kit.house("need a 1;elder b;bell 23 speech;bell 0 silence;");
        for (int time = 0; time < 73; time++) {
            Kit.due("speech at " + time, x.count(5), time % 24 == 23 ? 1 : 0);
            Kit.due("a day ends at " + (time + 1), x.pass(1), time % 24 == 23 ? 1 : 0);
        }
    }

    /** "At each hour 0 to 23 there may be a bell, of silence or of speech." */
    private static void bellsAtEachHour() {
        Run all = Kit.house("need a 1;elder b;");
        for (int hour = 0; hour < BOUND; hour++) {
            Run x = Kit.house("need a 1;elder b;bell " + hour + " speech;");
            Kit.due("speech at " + hour, x.bell(hour), 2);
            Kit.due("silence then", x.setBell(hour, 1), 2);
            Kit.due("a bell of silence", x.bell(hour) + x.count(6), 2);
            Kit.due("none then", x.setBell(hour, 0), 1);
            Kit.due("no bell", x.bell(hour) + x.count(6), 0);
            Kit.due("silence in a text", Kit.house("need a 1;elder b;bell " + hour + " silence;").bell(hour), 1);
            all.setBell(hour, 1 + hour % 2);
        }
        Kit.due("bells at all hours", all.count(6), 24);
        Kit.due("half of them of speech", all.count(7), 12);
        Kit.due("the day of them", Kit.dayText(all), ".s.s.s.s.s.s.s.s.s.s.s.s/0");
        Run x = new Run();
        Kit.throwsIndex("hour 24", () -> x.bell(24));
        Kit.throwsIndex("hour -1", () -> x.bell(-1));
        Kit.due("hour 24 in a text", Kit.load(x, "need a 1;elder b;bell 24 speech;"), SilentMonks.VALUE_ERROR);
    }

    /** "from 0 to 23, until all 24 hours were looked at": a bell alone is the latest one at all hours. */
    private static void oneBellAlone() {
        for (int hour = 0; hour < BOUND; hour++) {
            Run x = Kit.house("need a 1;elder b;bell " + hour + " speech;");
            Kit.due("speech alone at " + hour, Kit.dayText(x), "s".repeat(24) + "/0");
            Kit.due("its hours", x.count(7), 24);
            Run silence = Kit.house("need a 1;elder b;bell " + hour + " silence;");
            Kit.due("silence alone at " + hour, Kit.dayText(silence), ".".repeat(24) + "/0");
            Kit.due("its hours of speech", silence.count(7), 0);
            Kit.due("speech never", silence.speechIn(), SilentMonks.NONE);
        }
    }

    /**
     * "There is SPEECH if the latest bell is one of speech: that of the hour now, otherwise that of the hour ahead of it,
     * and so on back": with two bells, at all hours.
     */
    private static void latestBell() {
        for (int speech = 0; speech < BOUND; speech++) {
            for (int silence = 0; silence < BOUND; silence++) {
                if (speech != silence) {
                    String day = day(speech, silence);
                    Run x = Kit.house("need a 1;elder b;bell " + speech + " speech;bell " + silence + " silence;");
                    Kit.due("speech from " + speech + " to " + silence, Kit.dayText(x), day + "/0");
                    Kit.due("speech at 0", x.count(5), day.charAt(0) == 's' ? 1 : 0);
                    Kit.due("hours", x.count(7), (silence - speech + 24) % 24);
                    x.pass(1 + speech);
                    Kit.due("speech behind the bell of speech", x.count(5), day.charAt((1 + speech) % 24) == 's' ? 1 : 0);
                }
            }
        }
    }

    /** The hours of speech from a bell of speech to one of silence, also around midnight. */
    private static String day(int speech, int silence) {
        char[] day = ".".repeat(24).toCharArray();
        for (int hour = speech; hour != silence; hour = (hour + 1) % 24) {
            day[hour] = 's';
        }
        return new String(day);
    }

    /** "without any bell there is none" */
    private static void noBell() {
        Run x = Kit.house("need a 1;elder b;bell 4 speech;");
        x.setBell(4, 0);
        Kit.due("speech", x.count(5), 0);
        Kit.due("hours of speech", x.count(7), 0);
        Kit.due("speech at some time", x.speechIn(), SilentMonks.NONE);
        Kit.due("the day", Kit.dayText(x), ".".repeat(24) + "/0");
    }

    // ---- section 2

    private static void telling() {
        signBothMustKnow();
        signsChangeNothingElse();
        pagesOfSlips();
        voiceInSpeech();
        voiceByLeave();
        breachOfTheDay();
        signsAreLearned();
        wantsAreMet();
        wantsOfOthersStay();
    }

    /** "WAY 0, a sign: both must KNOW its sign." */
    private static void signBothMustKnow() {
        Run x = Kit.house("need a 1;need z 1;elder b a z;elder c a;novice d;novice e z;");
        Kit.due("both know it", x.tell(0, 1, 0, 0), 1);
        Kit.changesNothing("the other one does not", x, y -> y.tell(0, 2, 0, 0), -13);
        Kit.changesNothing("the one who tells does not", x, y -> y.tell(2, 0, 0, 0), -12);
        Kit.changesNothing("none of both does", x, y -> y.tell(2, 3, 0, 0), -12);
        Kit.changesNothing("another sign does not help", x, y -> y.tell(0, 3, 0, 0), -13);
    }

    /** "By WAY 1 or 2 the other monk KNOWS the sign then": by a sign nothing is another one, but for wants. */
    private static void signsChangeNothingElse() {
        Run x = Kit.house("need a 9;elder b a;elder c a;");
        String before = Kit.everything(x);
        x.tell(0, 1, 0, 0);
        Kit.due("a sign", x.account(0), 1);
        x.save(0);
        x.undo();
        Kit.due("undone", Kit.everything(x), before);
        x.restore(0);
        Kit.due("paper, leave, fast and signs", "" + x.count(2) + x.count(9) + x.count(10) + x.count(11), "20002");
        for (int account = 1; account <= 13; account++) {
            Kit.due("account " + account, x.account(account), 0);
        }
    }

    /** "it takes (WORDS + 9) / 10 pages of PAPER, twice as many if a novice tells it" */
    private static void pagesOfSlips() {
        for (int words = 1; words <= 20; words++) {
            for (int rank = 0; rank <= 2; rank++) {
                int pages = (words <= 10 ? 1 : 2) * (rank == 0 ? 2 : 1);
                String told = " of " + words + " by " + rank;
                Run x = Kit.house("paper " + pages + ";need a " + words + ";" + rankName(rank) + " b;elder c;");
                Kit.due("slip" + told, x.tell(0, 1, 0, 1), pages);
                Kit.due("paper behind a slip" + told, x.count(2), 0);
                Kit.due("account of pages" + told, x.account(3), pages);
                Kit.due("account of slips" + told, x.account(1), 1);
                x.set(2, pages - 1);
                Kit.due("a page too few" + told, x.tell(0, 1, 0, 1), -14);
                Kit.due("paper behind it" + told, x.count(2), pages - 1);
            }
        }
    }

    private static String rankName(int rank) {
        return rank == 0 ? "novice" : rank == 1 ? "brother" : "elder";
    }

    /** "in SPEECH its WORDS are spoken by the bell" */
    private static void voiceInSpeech() {
        for (int words = 1; words <= 20; words++) {
            Run x = Kit.house("grant 50;need a " + words + ";brother b;elder c;bell 9 speech;give c b 7;");
            Kit.due("days", x.tell(0, 1, 0, 2), 0);
            Kit.due("words by the bell", x.account(4), words);
            Kit.due("by leave, in breaches, breaches, days", x.account(5) + x.account(6) + x.account(7) + x.account(8), 0);
            Kit.due("leave stays", x.monk(0, 1), 7);
            Kit.due("no fast, no silence broken", x.monk(0, 2) + x.monk(0, 4), 0);
            Kit.due("by voice", x.account(2), 1);
        }
    }

    /**
     * "Otherwise as many of them as the monk has LEAVE for are spoken by leave, and LEAVE becomes less by that; what is
     * left of them (REST) is a breach: FAST of the monk grows by (REST + 4) / 5 days, twice as many of an elder"
     */
    private static void voiceByLeave() {
        for (int words = 1; words <= 20; words++) {
            for (int leave = 0; leave <= 21; leave++) {
                for (int rank = 0; rank <= 2; rank++) {
                    int rest = leave < words ? words - leave : 0;
                    int days = (rest == 0 ? 0 : rest <= 5 ? 1 : rest <= 10 ? 2 : rest <= 15 ? 3 : 4) * (rank == 2 ? 2 : 1);
                    Run x = Kit.house("grant 50;need a " + words + ";" + rankName(rank) + " b;elder c;"
                        + (leave > 0 ? "give c b " + leave + ";" : ""));
                    String told = " of " + words + " with " + leave + " by " + rank;
                    Kit.due("days" + told, x.tell(0, 1, 0, 2), days);
                    Kit.due("leave" + told, x.monk(0, 1), leave < words ? 0 : leave - words);
                    Kit.due("fast" + told, x.monk(0, 2), days);
                    Kit.due("broke" + told, x.monk(0, 4), rest > 0 ? 1 : 0);
                    Kit.due("by the bell" + told, x.account(4), 0);
                    Kit.due("by leave" + told, x.account(5), words - rest);
                    Kit.due("in breaches" + told, x.account(6), rest);
                    Kit.due("breaches" + told, x.account(7), rest > 0 ? 1 : 0);
                    Kit.due("laid on" + told, x.account(8), days);
                    Kit.due("by voice" + told, x.account(2), 1);
                }
            }
        }
    }

    /** "it BROKE silence on this day; without REST there is no breach" */
    private static void breachOfTheDay() {
        Run x = Kit.house("need a 5;brother b;elder c;give c b 10;");
        x.tell(0, 1, 0, 2);
        x.tell(0, 1, 0, 2);
        Kit.due("without rest", "" + x.monk(0, 4) + x.monk(0, 2) + x.account(6) + x.account(7) + x.account(8), "00000");
        x.tell(0, 1, 0, 2);
        Kit.due("with rest", "" + x.monk(0, 4) + x.monk(0, 2) + x.account(6) + x.account(7) + x.account(8), "11511");
        x.setBell(0, 2);
        x.tell(0, 1, 0, 2);
        Kit.due("in speech it has broken it all the same", x.monk(0, 4), 1);
    }

    /** "By WAY 1 or 2 the other monk KNOWS the sign then, too, if the one who tells KNOWS it." */
    private static void signsAreLearned() {
        for (int way = 1; way <= 2; way++) {
            for (int knows = 0; knows <= 3; knows++) {
                boolean isTeller = knows % 2 == 1;
                boolean isHearer = knows / 2 == 1;
                Run x = Kit.house("need a 1;need z 1;elder b z" + (isTeller ? " a" : "") + ";elder c" + (isHearer ? " a" : "") + ";");
                x.tell(0, 1, 0, way);
                Kit.due("who tells, " + way + knows, x.has(0, 0, false), isTeller);
                Kit.due("who hears, " + way + knows, x.has(1, 0, false), isTeller || isHearer);
                Kit.due("another sign, " + way + knows, x.has(1, 1, false), false);
                Kit.due("learned, " + way + knows, x.account(13), isTeller && !isHearer ? 1 : 0);
                x.tell(0, 1, 0, way);
                Kit.due("learned once, " + way + knows, x.account(13), isTeller && !isHearer ? 1 : 0);
            }
        }
    }

    /** "If the one who tells WANTS the need, and the RANK of the other one is not less than its own, the want is met" */
    private static void wantsAreMet() {
        for (int way = 0; way <= 2; way++) {
            for (int from = 0; from <= 2; from++) {
                for (int to = 0; to <= 2; to++) {
                    for (int wants = 0; wants <= 1; wants++) {
                        String told = " by " + way + " of " + from + " to " + to + " wanted " + wants;
                        Run x = Kit.house("need a 1;" + rankName(from) + " b a;" + rankName(to) + " c a;"
                            + (wants == 1 ? "want b a;" : ""));
                        x.tell(0, 1, 0, way);
                        Kit.due("wants" + told, x.has(0, 0, true), wants == 1 && to < from);
                        Kit.due("met" + told, x.account(12), wants == 1 && to >= from ? 1 : 0);
                        Kit.due("told" + told, x.account(way), 1);
                    }
                }
            }
        }
    }

    /** "the want is met: it WANTS it no more": that one's want of that need alone. */
    private static void wantsOfOthersStay() {
        for (int way = 0; way <= 2; way++) {
            Run x = Kit.house("need a 1;need z 1;elder b a z;elder c a z;elder d a z;"
                + "want b a;want b z;want c a;want d a;");
            x.tell(0, 1, 0, way);
            Kit.due("met", x.has(0, 0, true), false);
            Kit.due("another need", x.has(0, 1, true), true);
            Kit.due("of the one who hears", x.has(1, 0, true), true);
            Kit.due("of another one", x.has(2, 0, true), true);
            Kit.due("all wants", x.count(8), 3);
            Kit.due("wanted again", x.want(0, 0), 2);
        }
        Run refused = Kit.house("paper 0;need a 1;elder b a;elder c;want b a;");
        Kit.changesNothing("a refused slip meets none", refused, y -> y.tell(0, 1, 0, 1), -14);
        Kit.changesNothing("a refused sign meets none", refused, y -> y.tell(0, 1, 0, 0), -13);
    }

    // ---- section 3

    private static void leaveAndDays() {
        givingLeave();
        anHour();
        leaveExpires();
        fastIsKept();
        aNewDay();
        manyDaysAtOnce();
    }

    /** "An elder gives another monk leave for so many words: LEAVE of that one grows by them, GIVEN of the elder, too." */
    private static void givingLeave() {
        Run x = Kit.house("grant 50;need a 1;elder b;elder c;novice d;");
        Kit.due("one word", x.give(0, 2, 1), 1);
        Kit.due("fifty of another one", x.give(1, 2, 50), 51);
        Kit.due("to an elder", x.give(0, 1, 49), 49);
        Kit.due("leave", "" + x.monk(0, 1) + " " + x.monk(1, 1) + " " + x.monk(2, 1), "0 49 51");
        Kit.due("given", "" + x.monk(0, 3) + " " + x.monk(1, 3) + " " + x.monk(2, 3), "50 50 0");
        Kit.due("the account", x.account(10), 100);
    }

    /** "In an hour TIME grows by 1. If the hour is 0 then, a day has ended" */
    private static void anHour() {
        for (int hour = 0; hour < BOUND; hour++) {
            for (int hours = 1; hours <= 99; hours += 1 + hours / 3) {
                Run x = new Run();
                if (hour > 0) {
                    x.pass(hour);
                }
                Kit.due("days from " + hour + " in " + hours, x.pass(hours), (hour + hours) / 24);
                Kit.due("TIME", x.count(4), hour + hours);
            }
        }
    }

    /** "LEAVE becomes 0 (what it had expires)" */
    private static void leaveExpires() {
        Run x = Kit.house("need a 3;elder b;elder c;novice d;give b c 4;give c d 5;wait 23;");
        Kit.due("in the last hour", x.count(9) + x.account(11), 9);
        x.pass(1);
        Kit.due("leave", x.count(9), 0);
        Kit.due("expired", x.account(11), 9);
        x.give(0, 2, 7);
        x.tell(2, 0, 0, 2);
        x.pass(24);
        Kit.due("what was spoken does not expire", x.account(11), 9 + 4);
        x.pass(48);
        Kit.due("nothing expires twice", x.account(11), 13);
    }

    /** "if it did not break silence on the day that ended, and FAST is above 0, FAST becomes less by 1" */
    private static void fastIsKept() {
        Run x = Kit.house("need a 10;brother b;brother c;brother d;tell b c a voice;wait 24;");
        Kit.due("the day of the breach", x.monk(0, 2), 2);
        Kit.due("no day is kept", x.account(9), 0);
        x.tell(1, 0, 0, 2);
        x.pass(24);
        Kit.due("a day kept, a day broken, no fast", "" + x.monk(0, 2) + x.monk(1, 2) + x.monk(2, 2), "120");
        Kit.due("one day is kept", x.account(9), 1);
        x.tell(0, 1, 0, 2);
        x.pass(24);
        Kit.due("broken again", "" + x.monk(0, 2) + x.monk(1, 2), "31");
        Kit.due("two days are kept", x.account(9), 2);
        x.pass(24);
        Kit.due("both keep one", "" + x.monk(0, 2) + x.monk(1, 2) + x.account(9), "204");
        x.setBell(0, 2);
        x.tell(0, 1, 0, 2);
        x.pass(24);
        Kit.due("words by the bell break nothing", x.monk(0, 2), 1);
        x.pass(24);
        x.pass(24);
        Kit.due("0 stays 0", "" + x.monk(0, 2) + x.account(9), "06");
    }

    /** "GIVEN becomes 0, and it did not break silence on the new day" */
    private static void aNewDay() {
        Run x = Kit.house("need a 1;elder b;elder c;give c b 10;wait 23;");
        Kit.changesNothing("all is given", x, y -> y.give(1, 0, 1), -19);
        x.tell(1, 0, 0, 2);
        Kit.due("given and broken", "" + x.monk(1, 3) + x.monk(1, 4), "101");
        x.pass(1);
        Kit.due("given and broken on the new day", "" + x.monk(1, 3) + x.monk(1, 4), "00");
        x.pass(24);
        x.pass(24);
        Kit.due("all may be given again", x.give(1, 0, 10), 10);
    }

    /** "for each monk": each of the days of one call ends as if the hours had gone by one after the other. */
    private static void manyDaysAtOnce() {
        String text = "need a 20;need z 7;elder b;brother c;novice d;give b d 9;tell c b a voice;tell d b z voice;tell b c z voice;wait 22;";
        Run atOnce = Kit.house(text);
        Run one = Kit.house(text);
        Kit.due("days", atOnce.pass(99), 5);
        int days = 0;
        for (int i = 0; i < 99; i++) {
            days += one.pass(1);
        }
        Kit.due("days one by one", days, 5);
        Kit.due("all the same", Kit.everything(one), Kit.everything(atOnce));
        Kit.due("four are kept by each of two", atOnce.account(9), 4 + 4);
        Kit.due("two words expired", atOnce.account(11), 2);
    }

    // ---- section 5

    private static final String HOUSE = "paper 5;need a 4;need z 12;elder b a;elder c a z;novice d;wait 2;";

    private static void changes() {
        allChanges();
        changesOfNothing();
        noChanges();
        latestEight();
        undoneDoNotCount();
        undoOfEachChange();
        whatUndoLeaves();
    }

    /** "The changes are all calls of load, want, tell, give, pass, setBell, set and restore that succeed" */
    private static void allChanges() {
        Run x = new Run();
        Kit.due("none", x.count(12), 0);
        Kit.load(x, HOUSE);
        Kit.due("load", x.count(12), 1);
        x.want(0, 0);
        Kit.due("want", x.count(12), 2);
        x.tell(0, 1, 0, 0);
        Kit.due("tell", x.count(12), 3);
        x.give(0, 2, 3);
        Kit.due("give", x.count(12), 4);
        x.pass(1);
        Kit.due("pass", x.count(12), 5);
        x.setBell(5, 1);
        Kit.due("setBell", x.count(12), 6);
        x.set(3, 9);
        Kit.due("set", x.count(12), 7);
        x.save(0);
        Kit.due("save is none", x.count(12), 7);
        x.restore(0);
        Kit.due("restore", x.count(12), 8);
    }

    /** "(also if nothing is another one then" */
    private static void changesOfNothing() {
        Run x = new Run();
        Kit.load(x, "need a 1;elder b;");
        Kit.due("load of the same", x.count(12), 1);
        x.setBell(5, 0);
        Kit.due("no bell where none is", x.count(12), 2);
        x.set(2, 20);
        Kit.due("the same paper", x.count(12), 3);
        x.set(3, 10);
        Kit.due("the same grant", x.count(12), 4);
        x.save(1);
        x.restore(1);
        Kit.due("restore of the same", x.count(12), 5);
        for (int left = 4; left >= 0; left--) {
            Kit.due("undone", x.undo(), left);
        }
    }

    /** "a text with an error and a refused call are no changes)" */
    private static void noChanges() {
        Run x = Kit.house(HOUSE + "want b a;");
        x.pass(1);
        Kit.load(x, "need a 1;elder b;wait 0;");
        Kit.due("a text with an error", x.count(12), 2);
        x.load();
        Kit.due("an empty text", x.count(12), 2);
        Kit.due("a refused want", x.want(0, 0) + x.count(12), -11 + 2);
        Kit.due("a refused tell", x.tell(2, 0, 0, 0) + x.count(12), -12 + 2);
        Kit.due("a refused give", x.give(2, 0, 1) + x.count(12), -16 + 2);
        Kit.throwsArgument("wrong hours", () -> x.pass(0));
        Kit.throwsArgument("a wrong bell", () -> x.setBell(0, 3));
        Kit.throwsArgument("a wrong number", () -> x.set(2, 100));
        Kit.throwsState("nothing saved", () -> x.restore(0));
        x.append(0x61626364, 0, 0, 0, 0);
        x.save(0);
        x.writeMonk(0);
        x.writeDay();
        Kit.due("other calls", x.count(12), 2);
        Kit.due("the hour is undone", x.undo() + x.count(4), 1 + 2);
        Run late = new Run();
        Kit.passTo(late, 9999);
        Kit.due("a refused pass", late.pass(1) + late.count(12), -21 + 8);
        Kit.due("the hours ahead of it are undone", late.undo() + late.count(4), 7 + 9900);
    }

    /** "The latest 8 changes can be undone", "older ones cannot any more" */
    private static void latestEight() {
        for (int count = 0; count <= 20; count++) {
            Run x = new Run();
            for (int i = 0; i < count; i++) {
                x.pass(1);
                Kit.due("changes that can be undone", x.count(12), Math.min(i + 1, 8));
            }
            int left = Math.min(count, 8);
            while (left > 0) {
                left--;
                Kit.due("undo of " + count, x.undo(), left);
                Kit.due("count of them", x.count(12), left);
            }
            Kit.due("TIME as ahead of the latest 8 of " + count, x.count(4), Math.max(count - 8, 0));
            Kit.changesNothing("one more of " + count, x, y -> y.undo(), "IllegalStateException");
        }
    }

    /** "(changes that were undone do not count)" */
    private static void undoneDoNotCount() {
        Run x = new Run();
        for (int i = 1; i <= 8; i++) {
            x.pass(1);
        }
        Kit.due("undone", x.undo() + x.undo() + x.undo(), 7 + 6 + 5);
        x.pass(10);
        x.pass(10);
        x.pass(10);
        Kit.due("eight again", x.count(12), 8);
        Kit.due("TIME", x.count(4), 5 + 30);
        for (int left = 7; left >= 5; left--) {
            Kit.due("undone again", x.undo(), left);
        }
        Kit.due("TIME of the first five", x.count(4), 5);
        for (int left = 4; left >= 0; left--) {
            Kit.due("undone, too", x.undo(), left);
            Kit.due("TIME of " + left, x.count(4), left);
        }
        Kit.throwsState("no more", () -> x.undo());
        Kit.due("a change behind all of it", x.pass(7) + x.count(12), 1);
        Kit.due("which is undone", x.undo() + x.count(4), 0);
    }

    /** "undoing a change brings back everything as it was before it" */
    private static void undoOfEachChange() {
        Run x = Kit.house("grant 20;need a 4;need z 12;elder b a;elder c a z;novice d;bell 3 silence;want b a;want c z;");
        x.save(0);
        x.give(1, 2, 5);
        String before = Kit.everything(x);
        String[] names = {"want", "sign", "slip", "voice", "give", "pass", "setBell", "paper", "grant", "restore", "load"};
        for (int i = 0; i < names.length; i++) {
            Run y = x.again();
            oneChange(y, i);
            Kit.due(names[i] + " is a change", y.count(12), 3);
            Kit.due(names[i] + " changes something", Kit.everything(y).equals(before), false);
            Kit.due(names[i] + " is undone", y.undo(), 2);
            Kit.due("behind undone " + names[i], Kit.everything(y), before);
            Kit.due("names behind undone " + names[i], Kit.monkText(y, 0) + Kit.monkText(y, 1) + Kit.monkText(y, 2),
                "b:a/ac:a z/zd:/");
        }
    }

    private static void oneChange(Run x, int i) {
        switch (i) {
            case 0: x.want(2, 1); break;
            case 1: x.tell(0, 1, 0, 0); break;
            case 2: x.tell(1, 2, 1, 1); break;
            case 3: x.tell(2, 0, 1, 2); break;
            case 4: x.give(0, 2, 3); break;
            case 5: x.pass(70); break;
            case 6: x.setBell(3, 0); break;
            case 7: x.set(2, 6); break;
            case 8: x.set(3, 6); break;
            case 9: x.restore(0); break;
            default:
                Kit.load(x, "need q 20;need r 1;elder s r;brother t q;brother u;bell 1 speech;tell t s q slip;");
                break;
        }
    }

    /** "but not the text buffer, the position of the error, the written text and what was saved" */
    private static void whatUndoLeaves() {
        Run x = Kit.house(HOUSE);
        x.pass(1);
        x.pass(1);
        Kit.append(x, "need q 1;elder r;brother s;");
        x.undo();
        Kit.due("the text buffer", x.append(0, 0, 0, 0, 0), 27);
        Kit.due("is read", x.load(), 2);
        x.undo();
        Kit.due("the text buffer stays empty", x.append(0, 0, 0, 0, 0), 0);
        x.pass(1);
        Kit.load(x, "need q 1;elder r;brother r;");
        x.undo();
        Kit.due("the position of the error", x.errorPosition(), 25);
        Kit.load(x, "need q 1;elder r;");
        x.undo();
        Kit.due("no error", x.errorPosition(), SilentMonks.NONE);
        x.pass(1);
        int length = x.writeMonk(1);
        x.undo();
        Kit.due("the written text", Kit.writtenText(x, length), "c:a z/");
        x.pass(9);
        x.save(1);
        x.undo();
        Kit.due("what was saved", x.restore(1), 12);
    }

    // ---- section 5, the reasons

    private static void refusals() {
        Run wanting = Kit.house("need a 4;elder b;elder c;want b a;");
        Kit.changesNothing("1 it wants it", wanting, y -> y.want(0, 0), -11);
        Kit.due("1 another one may", wanting.want(1, 0), 1);
        Run signs = Kit.house("need a 4;elder b a;elder c;");
        Kit.changesNothing("2 the one who tells does not know it", signs, y -> y.tell(1, 0, 0, 0), -12);
        Kit.changesNothing("3 the other one does not", signs, y -> y.tell(0, 1, 0, 0), -13);
        Run paper = Kit.house("paper 3;need a 11;novice b;brother c;");
        Kit.changesNothing("4 paper", paper, y -> y.tell(0, 1, 0, 1), -14);
        Kit.due("4 not of a brother", paper.tell(1, 0, 0, 1), 2);
        Kit.changesNothing("4 nor of a brother then", paper, y -> y.tell(1, 0, 0, 1), -14);
        Run fast = Kit.house("need a 20;brother b;elder c;" + "tell b c a voice;".repeat(24));
        Kit.changesNothing("5 fast", fast, y -> y.tell(0, 1, 0, 2), -15);
        Run leave = fast.again();
        leave.give(1, 0, 5);
        Kit.due("5 who fasts gets no leave", leave.monk(0, 1), 0);
        leave.setBell(3, 2);
        Kit.due("5 not in speech", leave.tell(0, 1, 0, 2), 0);
        Run give = Kit.house("grant 50;need a 4;elder b;elder c;brother d;novice e;");
        Kit.changesNothing("6 a brother gives", give, y -> y.give(2, 0, 1), -16);
        Kit.changesNothing("6 a novice gives", give, y -> y.give(3, 0, 1), -16);
        Run fasting = give.again();
        fasting.tell(0, 1, 0, 2);
        Kit.changesNothing("7 the elder fasts", fasting, y -> y.give(0, 2, 1), -17);
        Kit.changesNothing("8 the other one fasts", fasting, y -> y.give(1, 0, 1), -18);
        Run given = give.again();
        given.give(0, 2, 49);
        Kit.changesNothing("9 above the grant", given, y -> y.give(0, 3, 2), -19);
        Kit.due("9 up to the grant", given.give(0, 3, 1), 1);
        Kit.changesNothing("9 above the grant by one", given, y -> y.give(0, 3, 1), -19);
        Kit.due("10 up to 99", given.give(1, 2, 50), 99);
        given.pass(24);
        given.give(0, 2, 50);
        Kit.changesNothing("10 above 99", given, y -> y.give(1, 2, 50), -20);
        Kit.due("10 up to 99 again", given.give(1, 2, 49), 99);
        Kit.changesNothing("10 above 99 by one", given, y -> y.give(1, 2, 1), -20);
        Run late = new Run();
        Kit.passTo(late, 9998);
        Kit.changesNothing("11 late", late, y -> y.pass(2), -21);
        Kit.due("11 not yet", late.pass(1), 0);
    }

    /** "if several reasons apply, the lowest one" */
    private static void severalReasons() {
        Run signs = Kit.house("need a 4;elder b;elder c;");
        Kit.changesNothing("2 and 3", signs, y -> y.tell(0, 1, 0, 0), -12);
        for (int reasons = 1; reasons < 32; reasons++) {
            // Who fasts has no leave and gets none: 8 and 10 never apply both.
            if ((reasons & 20) != 20) {
                Kit.changesNothing("reasons of give, " + reasons, houseOfReasons(reasons), y -> y.give(0, 1, 1),
                    -10 - 6 - Integer.numberOfTrailingZeros(reasons));
            }
        }
    }

    /** A house in which b may not give c leave, for the reasons 6 to 10 that the bits 0 to 4 tell. */
    private static Run houseOfReasons(int reasons) {
        boolean isElder = (reasons & 1) == 0;
        Run x = Kit.house("grant 50;need a 1;" + (isElder ? "elder" : "brother") + " b;brother c;elder d;elder e;brother f;");
        if ((reasons & 16) != 0) {
            x.give(2, 1, 50);
            x.give(3, 1, 49);
        }
        if ((reasons & 8) != 0) {
            if (isElder) {
                x.give(0, 4, 50);
            }
            x.set(3, 0);
        }
        if ((reasons & 2) != 0) {
            x.tell(0, 2, 0, 2);
        }
        if ((reasons & 4) != 0) {
            x.tell(1, 2, 0, 2);
        }
        return x;
    }
}
