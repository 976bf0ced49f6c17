import java.util.Arrays;

/** A house of silence, as ../shared/DOC.md tells it; the promises there are the contract of this class. */
public final class SilentMonks {

    public static final int NONE = -1;
    public static final int SYNTAX_ERROR = -2;
    public static final int VALUE_ERROR = -3;
    public static final int UNKNOWN = -4;
    public static final int TWICE = -5;
    public static final int TOO_MANY = -6;
    public static final int REFUSED = -7;

    private static final int MAX_TEXT = 800;
    private static final int MAX_MONKS = 12;
    private static final int MAX_NEEDS = 8;
    private static final int MAX_NAME = 6;
    private static final int MAX_WORDS = 20;
    private static final int MAX_PAPER = 99;
    private static final int MAX_GRANT = 50;
    private static final int MAX_LEAVE = 99;
    private static final int MAX_FAST = 99;
    private static final int MAX_GIFT = 50;
    private static final int MAX_WAIT = 99;
    private static final int MAX_FORESIGHT = 999;
    private static final int MAX_TIME = 9999;
    private static final int MAX_UNDO = 8;
    private static final int SLOTS = 2;
    private static final int HOURS = 24;

    private static final int FIRST_PAPER = 20;
    private static final int FIRST_GRANT = 10;

    private static final int NOVICE = 0;
    private static final int BROTHER = 1;
    private static final int ELDER = 2;

    private static final int NO_BELL = 0;
    private static final int SILENCE_BELL = 1;
    private static final int SPEECH_BELL = 2;

    private static final int SIGN = 0;
    private static final int SLIP = 1;
    private static final int VOICE = 2;

    private static final int ALLOWED = 0;
    private static final int ALREADY_WANTED = 1;
    private static final int TELLER_KNOWS_NOT = 2;
    private static final int HEARER_KNOWS_NOT = 3;
    private static final int LITTLE_PAPER = 4;
    private static final int MUCH_FAST = 5;
    private static final int NO_ELDER = 6;
    private static final int GIVER_FASTS = 7;
    private static final int TAKER_FASTS = 8;
    private static final int ABOVE_GRANT = 9;
    private static final int MUCH_LEAVE = 10;
    private static final int LATE = 11;

    private static final int BY_BELL = 20;
    private static final int BY_LEAVE = 21;
    private static final int IN_PART_BY_LEAVE = 22;
    private static final int NOT_BY_LEAVE = 23;

    private static final int COST_OF_FAST_DAY = 10;
    private static final int COST_OF_LEAVE_WORD = 1;
    private static final int COST_OF_PAGE = 3;

    private static final int ACCOUNTS = 14;
    private static final int TOLD_BY_SIGN = 0;
    private static final int TOLD_BY_SLIP = 1;
    private static final int TOLD_BY_VOICE = 2;
    private static final int PAGES_TAKEN = 3;
    private static final int BELL_WORDS = 4;
    private static final int LEAVE_WORDS = 5;
    private static final int BREACH_WORDS = 6;
    private static final int BREACHES = 7;
    private static final int FAST_LAID_ON = 8;
    private static final int FAST_KEPT = 9;
    private static final int LEAVE_GIVEN = 10;
    private static final int LEAVE_EXPIRED = 11;
    private static final int WANTS_MET = 12;
    private static final int SIGNS_LEARNED = 13;

    private final House house;
    private final TextReader reader;
    private final History history;
    private final WrittenText written;
    private final House[] saved;
    private final boolean[] isSaved;

    public SilentMonks() {
        house = new House();
        house.becomeFirst();
        reader = new TextReader();
        history = new History();
        written = new WrittenText();
        saved = new House[SLOTS];
        for (int slot = 0; slot < SLOTS; slot++) {
            saved[slot] = new House();
        }
        isSaved = new boolean[SLOTS];
    }

    // ---- setup

    public int append(int a, int b, int c, int d, int e) throws IllegalStateException {
        int added = TextReader.bytesIn(a) + TextReader.bytesIn(b) + TextReader.bytesIn(c)
            + TextReader.bytesIn(d) + TextReader.bytesIn(e);
        if (reader.length + added > MAX_TEXT) {
            throw new IllegalStateException("the text would be too long");
        }
        reader.addBytes(a);
        reader.addBytes(b);
        reader.addBytes(c);
        reader.addBytes(d);
        reader.addBytes(e);
        return reader.length;
    }

    public int load() {
        boolean isRight = reader.readText();
        reader.length = 0;
        if (!isRight) {
            return reader.error;
        }
        history.remember(house);
        house.copyFrom(reader.told);
        return house.monkCount;
    }

    public int errorPosition() {
        return reader.errorAt;
    }

    // ---- what there is

    public int count(int what) throws IllegalArgumentException {
        switch (what) {
            case 0: return house.monkCount;
            case 1: return house.needCount;
            case 2: return house.paper;
            case 3: return house.grant;
            case 4: return house.time;
            case 5: return house.isSpeechAt(house.time % HOURS) ? 1 : 0;
            case 6: return house.bellCount();
            case 7: return house.speechHours(NONE);
            case 8: return house.membersOf(house.wants);
            case 9: return house.sumOf(house.leave);
            case 10: return house.sumOf(house.fast);
            case 11: return house.membersOf(house.knows);
            case 12: return history.size;
            default: throw new IllegalArgumentException("no such number of the house");
        }
    }

    public int account(int what) throws IllegalArgumentException {
        if (what < 0 || what >= ACCOUNTS) {
            throw new IllegalArgumentException("no such account");
        }
        return house.accounts[what];
    }

    public int monk(int monk, int what) throws IndexOutOfBoundsException, IllegalArgumentException {
        requireMonk(monk);
        switch (what) {
            case 0: return house.rank[monk];
            case 1: return house.leave[monk];
            case 2: return house.fast[monk];
            case 3: return house.given[monk];
            case 4: return house.broke[monk];
            case 5: return Integer.bitCount(house.knows[monk]);
            case 6: return Integer.bitCount(house.wants[monk]);
            case 7: return house.othersWhoKnowAllOf(monk);
            case 8: return Name.lettersIn(house.monkNames[monk]);
            default: throw new IllegalArgumentException("no such number of a monk");
        }
    }

    public int need(int need, int what) throws IndexOutOfBoundsException, IllegalArgumentException {
        requireNeed(need);
        switch (what) {
            case 0: return house.words[need];
            case 1: return house.monksWith(need, house.knows);
            case 2: return house.monksWith(need, house.wants);
            case 3: return House.pagesFor(BROTHER, house.words[need]);
            case 4: return House.fastFor(BROTHER, house.words[need]);
            default: throw new IllegalArgumentException("no such number of a need");
        }
    }

    public boolean has(int monk, int need, boolean isWant) throws IndexOutOfBoundsException {
        requireMonk(monk);
        requireNeed(need);
        return House.isMember(need, isWant ? house.wants[monk] : house.knows[monk]);
    }

    public int bell(int hour) throws IndexOutOfBoundsException {
        requireHour(hour);
        return house.bells[hour];
    }

    // ---- reasons, measures

    public int why(int from, int to, int need, int way, int depth)
            throws IndexOutOfBoundsException, IllegalArgumentException {
        requireTelling(from, to, need);
        requireWithin(way, SIGN, VOICE);
        requireWithin(depth, 0, 2);
        int reason = house.tellingReason(from, to, need, way);
        if (depth == 0) {
            return reason;
        }
        return depth == 1 ? house.causeOf(reason, from, to, need, way) : house.causeBehind(reason, from, need);
    }

    public int gap() {
        int[] accounts = house.accounts;
        int words = accounts[BELL_WORDS] + accounts[LEAVE_WORDS] + accounts[BREACH_WORDS] - house.voiceWords;
        int days = accounts[FAST_LAID_ON] - accounts[FAST_KEPT] - house.sumOf(house.fast);
        int leave = accounts[LEAVE_GIVEN] - accounts[LEAVE_WORDS] - accounts[LEAVE_EXPIRED]
            - house.sumOf(house.leave);
        return words + days + leave;
    }

    public double meanFast() {
        if (house.monkCount == 0) {
            return 0.0;
        }
        return (double) house.sumOf(house.fast) / (double) house.monkCount;
    }

    public float breachShare() {
        int[] accounts = house.accounts;
        int spoken = accounts[BELL_WORDS] + accounts[LEAVE_WORDS] + accounts[BREACH_WORDS];
        if (spoken == 0) {
            return 0.0f;
        }
        return (float) accounts[BREACH_WORDS] / (float) spoken;
    }

    public int ranked(int place) {
        for (int monk = 0; monk < house.monkCount; monk++) {
            if (house.monksAheadOf(monk) == place) {
                return monk;
            }
        }
        return NONE;
    }

    // ---- what would be

    public int bestWay(int from, int to, int need) throws IndexOutOfBoundsException, IllegalArgumentException {
        requireTelling(from, to, need);
        int best = NONE;
        int leastCost = 0;
        for (int way = SIGN; way <= VOICE; way++) {
            if (house.tellRefusal(from, to, need, way) == ALLOWED) {
                int cost = house.costOf(from, need, way);
                if (best == NONE || cost < leastCost) {
                    best = way;
                    leastCost = cost;
                }
            }
        }
        return best;
    }

    public int speechIn() {
        for (int hours = 0; hours < HOURS; hours++) {
            if (house.isSpeechAt((house.time + hours) % HOURS)) {
                return hours;
            }
        }
        return NONE;
    }

    public int fastIn(int hours) throws IllegalArgumentException {
        requireWithin(hours, 0, MAX_FORESIGHT);
        return house.fastBehind(hours);
    }

    public int freeIn(int monk) throws IndexOutOfBoundsException {
        requireMonk(monk);
        if (house.fast[monk] == 0) {
            return 0;
        }
        int days = house.fast[monk] + house.broke[monk];
        return days * HOURS - house.time % HOURS;
    }

    public int bestBell() {
        int best = 0;
        for (int hour = 1; hour < HOURS; hour++) {
            if (house.speechHours(hour) > house.speechHours(best)) {
                best = hour;
            }
        }
        return best;
    }

    public int bestHearer() {
        int best = 0;
        for (int monk = 1; monk < house.monkCount; monk++) {
            if (house.wantsMetBy(monk) > house.wantsMetBy(best)) {
                best = monk;
            }
        }
        return best;
    }

    // ---- changes

    public int want(int monk, int need) throws IndexOutOfBoundsException {
        requireMonk(monk);
        requireNeed(need);
        int reason = house.wantRefusal(monk, need);
        if (reason != ALLOWED) {
            return refusal(reason);
        }
        history.remember(house);
        return house.addWant(monk, need);
    }

    public int tell(int from, int to, int need, int way)
            throws IndexOutOfBoundsException, IllegalArgumentException {
        requireTelling(from, to, need);
        requireWithin(way, SIGN, VOICE);
        int reason = house.tellRefusal(from, to, need, way);
        if (reason != ALLOWED) {
            return refusal(reason);
        }
        history.remember(house);
        return house.tellNeed(from, to, need, way);
    }

    public int give(int from, int to, int words) throws IndexOutOfBoundsException, IllegalArgumentException {
        requireMonk(from);
        requireMonk(to);
        requireTwo(from, to);
        requireWithin(words, 1, MAX_GIFT);
        int reason = house.giveRefusal(from, to, words);
        if (reason != ALLOWED) {
            return refusal(reason);
        }
        history.remember(house);
        return house.giveLeave(from, to, words);
    }

    public int pass(int hours) throws IllegalArgumentException {
        requireWithin(hours, 1, MAX_WAIT);
        int reason = house.passRefusal(hours);
        if (reason != ALLOWED) {
            return refusal(reason);
        }
        history.remember(house);
        return house.passHours(hours);
    }

    public int setBell(int hour, int bell) throws IndexOutOfBoundsException, IllegalArgumentException {
        requireHour(hour);
        requireWithin(bell, NO_BELL, SPEECH_BELL);
        history.remember(house);
        int before = house.bells[hour];
        house.bells[hour] = bell;
        return before;
    }

    public int set(int what, int value) throws IllegalArgumentException {
        requireWithin(what, 2, 3);
        boolean isPaper = what == 2;
        requireWithin(value, 0, isPaper ? MAX_PAPER : MAX_GRANT);
        history.remember(house);
        int before = isPaper ? house.paper : house.grant;
        if (isPaper) {
            house.paper = value;
        } else {
            house.grant = value;
        }
        return before;
    }

    public int undo() throws IllegalStateException {
        if (history.size == 0) {
            throw new IllegalStateException("there is no change to undo");
        }
        history.bringBack(house);
        return history.size;
    }

    public void save(int slot) throws IndexOutOfBoundsException {
        requireSlot(slot);
        saved[slot].copyFrom(house);
        isSaved[slot] = true;
    }

    public int restore(int slot) throws IndexOutOfBoundsException, IllegalStateException {
        requireSlot(slot);
        if (!isSaved[slot]) {
            throw new IllegalStateException("nothing is saved there");
        }
        history.remember(house);
        house.copyFrom(saved[slot]);
        return house.time;
    }

    // ---- written texts

    public int writeMonk(int monk) throws IndexOutOfBoundsException {
        requireMonk(monk);
        written.length = 0;
        written.addName(house.monkNames[monk]);
        written.addByte(':');
        written.addNeeds(house, house.knows[monk]);
        written.addByte('/');
        written.addNeeds(house, house.wants[monk]);
        return written.length;
    }

    public int writeDay() {
        written.length = 0;
        for (int hour = 0; hour < HOURS; hour++) {
            written.addByte(house.isSpeechAt(hour) ? 's' : '.');
        }
        written.addByte('/');
        written.addNumber(house.time);
        return written.length;
    }

    public int writtenByte(int index) throws IndexOutOfBoundsException {
        if (index < 0 || index >= written.length) {
            throw new IndexOutOfBoundsException("no such byte");
        }
        return written.bytes[index];
    }

    // ---- what the calls ask of their arguments

    private void requireMonk(int monk) {
        if (monk < 0 || monk >= house.monkCount) {
            throw new IndexOutOfBoundsException("no such monk");
        }
    }

    private void requireNeed(int need) {
        if (need < 0 || need >= house.needCount) {
            throw new IndexOutOfBoundsException("no such need");
        }
    }

    private void requireTelling(int from, int to, int need) {
        requireMonk(from);
        requireMonk(to);
        requireNeed(need);
        requireTwo(from, to);
    }

    private static void requireHour(int hour) {
        if (hour < 0 || hour >= HOURS) {
            throw new IndexOutOfBoundsException("no such hour");
        }
    }

    private static void requireSlot(int slot) {
        if (slot < 0 || slot >= SLOTS) {
            throw new IndexOutOfBoundsException("no such slot");
        }
    }

    private static void requireTwo(int from, int to) {
        if (from == to) {
            throw new IllegalArgumentException("both monks are the same one");
        }
    }

    private static void requireWithin(int value, int least, int most) {
        if (value < least || value > most) {
            throw new IllegalArgumentException("out of range");
        }
    }

    private static int refusal(int reason) {
        return -10 - reason;
    }

    /**
     * A name as one number, five bits for each letter (a is 1): so a house holds names without
     * objects, and copies and compares them as it does with its other numbers.
     */
    private static final class Name {
        private static final int LETTER_BITS = 5;
        private static final int LETTER_MASK = 31;
        private static final int NO_NAME = 0;
        private static final int BEFORE_A = 'a' - 1;

        static int with(int name, int letter) {
            return (name << LETTER_BITS) | (letter - BEFORE_A);
        }

        /** The letter at one of the six places, the last one with the name's last letter; 0 for none. */
        static int letterAt(int name, int place) {
            int code = (name >> (LETTER_BITS * (MAX_NAME - 1 - place))) & LETTER_MASK;
            return code == 0 ? 0 : code + BEFORE_A;
        }

        static int lettersIn(int name) {
            int letters = 0;
            for (int place = 0; place < MAX_NAME; place++) {
                if (letterAt(name, place) != 0) {
                    letters++;
                }
            }
            return letters;
        }
    }

    /** All that undo brings back, and the rules by which it changes. Sets of needs are bit sets. */
    private static final class House {
        final int[] monkNames = new int[MAX_MONKS];
        final int[] rank = new int[MAX_MONKS];
        final int[] knows = new int[MAX_MONKS];
        final int[] wants = new int[MAX_MONKS];
        final int[] leave = new int[MAX_MONKS];
        final int[] fast = new int[MAX_MONKS];
        final int[] given = new int[MAX_MONKS];
        final int[] broke = new int[MAX_MONKS];
        final int[] needNames = new int[MAX_NEEDS];
        final int[] words = new int[MAX_NEEDS];
        final int[] bells = new int[HOURS];
        final int[] accounts = new int[ACCOUNTS];
        int monkCount;
        int needCount;
        int paper;
        int grant;
        int time;
        /** Counted apart from the accounts, so that gap has something to compare them with. */
        int voiceWords;

        void copyFrom(House other) {
            System.arraycopy(other.monkNames, 0, monkNames, 0, MAX_MONKS);
            System.arraycopy(other.rank, 0, rank, 0, MAX_MONKS);
            System.arraycopy(other.knows, 0, knows, 0, MAX_MONKS);
            System.arraycopy(other.wants, 0, wants, 0, MAX_MONKS);
            System.arraycopy(other.leave, 0, leave, 0, MAX_MONKS);
            System.arraycopy(other.fast, 0, fast, 0, MAX_MONKS);
            System.arraycopy(other.given, 0, given, 0, MAX_MONKS);
            System.arraycopy(other.broke, 0, broke, 0, MAX_MONKS);
            System.arraycopy(other.needNames, 0, needNames, 0, MAX_NEEDS);
            System.arraycopy(other.words, 0, words, 0, MAX_NEEDS);
            System.arraycopy(other.bells, 0, bells, 0, HOURS);
            System.arraycopy(other.accounts, 0, accounts, 0, ACCOUNTS);
            monkCount = other.monkCount;
            needCount = other.needCount;
            paper = other.paper;
            grant = other.grant;
            time = other.time;
            voiceWords = other.voiceWords;
        }

        /** Becomes a house without monks and needs, as it is ahead of a text. */
        void clear() {
            monkCount = 0;
            needCount = 0;
            paper = FIRST_PAPER;
            grant = FIRST_GRANT;
            time = 0;
            voiceWords = 0;
            Arrays.fill(bells, NO_BELL);
            Arrays.fill(accounts, 0);
        }

        void becomeFirst() {
            clear();
            addNeed(Name.with(Name.NO_NAME, 'a'), 1);
            addMonk(Name.with(Name.NO_NAME, 'b'), ELDER, 0);
        }

        void addNeed(int name, int wordsOfIt) {
            if (needCount < MAX_NEEDS) {
                needNames[needCount] = name;
                words[needCount] = wordsOfIt;
                needCount++;
            }
        }

        void addMonk(int name, int rankOfIt, int knowsOfIt) {
            if (monkCount < MAX_MONKS) {
                monkNames[monkCount] = name;
                rank[monkCount] = rankOfIt;
                knows[monkCount] = knowsOfIt;
                wants[monkCount] = 0;
                leave[monkCount] = 0;
                fast[monkCount] = 0;
                given[monkCount] = 0;
                broke[monkCount] = 0;
                monkCount++;
            }
        }

        int monkNamed(int name) {
            for (int monk = 0; monk < monkCount; monk++) {
                if (monkNames[monk] == name) {
                    return monk;
                }
            }
            return NONE;
        }

        int needNamed(int name) {
            for (int need = 0; need < needCount; need++) {
                if (needNames[need] == name) {
                    return need;
                }
            }
            return NONE;
        }

        // ---- sets and sums

        static boolean isMember(int need, int set) {
            return (set & (1 << need)) != 0;
        }

        int sumOf(int[] numbers) {
            int sum = 0;
            for (int monk = 0; monk < monkCount; monk++) {
                sum += numbers[monk];
            }
            return sum;
        }

        int membersOf(int[] sets) {
            int members = 0;
            for (int monk = 0; monk < monkCount; monk++) {
                members += Integer.bitCount(sets[monk]);
            }
            return members;
        }

        int monksWith(int need, int[] sets) {
            int monks = 0;
            for (int monk = 0; monk < monkCount; monk++) {
                if (isMember(need, sets[monk])) {
                    monks++;
                }
            }
            return monks;
        }

        int othersWhoKnowAllOf(int monk) {
            int others = 0;
            for (int other = 0; other < monkCount; other++) {
                if (other != monk && (knows[monk] & ~knows[other]) == 0) {
                    others++;
                }
            }
            return others;
        }

        int monksAheadOf(int monk) {
            int ahead = 0;
            for (int other = 0; other < monkCount; other++) {
                if (isAhead(other, monk)) {
                    ahead++;
                }
            }
            return ahead;
        }

        private boolean isAhead(int other, int monk) {
            if (fast[other] != fast[monk]) {
                return fast[other] > fast[monk];
            }
            if (leave[other] != leave[monk]) {
                return leave[other] > leave[monk];
            }
            return other < monk;
        }

        int wantsMetBy(int hearer) {
            int met = 0;
            for (int monk = 0; monk < monkCount; monk++) {
                if (monk != hearer && rank[hearer] >= rank[monk]) {
                    met += Integer.bitCount(wants[monk] & knows[monk] & knows[hearer]);
                }
            }
            return met;
        }

        // ---- bells

        int bellCount() {
            int count = 0;
            for (int hour = 0; hour < HOURS; hour++) {
                if (bells[hour] != NO_BELL) {
                    count++;
                }
            }
            return count;
        }

        /** The hour of the latest bell at an hour of the day. */
        int latestBell(int hour) {
            for (int back = 0; back < HOURS; back++) {
                int at = (hour + HOURS - back) % HOURS;
                if (bells[at] != NO_BELL) {
                    return at;
                }
            }
            return NONE;
        }

        boolean isSpeechAt(int hour) {
            int at = latestBell(hour);
            return at != NONE && bells[at] == SPEECH_BELL;
        }

        /** The hours of a day with speech, as if there was a bell of speech at the hour speechBell, too. */
        int speechHours(int speechBell) {
            boolean isSpeech = false;
            int hours = 0;
            // The first day only finds the bell whose word the second one begins with.
            for (int i = 0; i < 2 * HOURS; i++) {
                int hour = i % HOURS;
                int bell = hour == speechBell ? SPEECH_BELL : bells[hour];
                if (bell != NO_BELL) {
                    isSpeech = bell == SPEECH_BELL;
                }
                if (isSpeech && i >= HOURS) {
                    hours++;
                }
            }
            return hours;
        }

        // ---- what telling takes

        static int pagesFor(int rankOfTeller, int wordsToWrite) {
            int pages = (wordsToWrite + 9) / 10;
            return rankOfTeller == NOVICE ? 2 * pages : pages;
        }

        static int fastFor(int rankOfTeller, int rest) {
            int days = (rest + 4) / 5;
            return rankOfTeller == ELDER ? 2 * days : days;
        }

        private int pagesToTell(int from, int need) {
            return pagesFor(rank[from], words[need]);
        }

        private int leaveToTell(int from, int need, boolean isSpeech) {
            return isSpeech ? 0 : Math.min(leave[from], words[need]);
        }

        private int restToTell(int from, int need, boolean isSpeech) {
            return isSpeech ? 0 : Math.max(words[need] - leave[from], 0);
        }

        private int fastToTell(int from, int need, boolean isSpeech) {
            return fastFor(rank[from], restToTell(from, need, isSpeech));
        }

        int costOf(int from, int need, int way) {
            if (way == SIGN) {
                return 0;
            }
            if (way == SLIP) {
                return COST_OF_PAGE * pagesToTell(from, need);
            }
            boolean isSpeech = isSpeechAt(time % HOURS);
            return COST_OF_FAST_DAY * fastToTell(from, need, isSpeech)
                + COST_OF_LEAVE_WORD * leaveToTell(from, need, isSpeech);
        }

        // ---- reasons

        int tellingReason(int from, int to, int need, int way) {
            int reason = tellRefusal(from, to, need, way);
            if (reason != ALLOWED || way != VOICE) {
                return reason;
            }
            if (isSpeechAt(time % HOURS)) {
                return BY_BELL;
            }
            if (leave[from] >= words[need]) {
                return BY_LEAVE;
            }
            return leave[from] > 0 ? IN_PART_BY_LEAVE : NOT_BY_LEAVE;
        }

        int causeOf(int reason, int from, int to, int need, int way) {
            switch (reason) {
                case ALLOWED: return way == SLIP ? pagesToTell(from, need) : 0;
                case TELLER_KNOWS_NOT: return from;
                case HEARER_KNOWS_NOT: return to;
                case LITTLE_PAPER: return paper;
                case MUCH_FAST: return fast[from];
                case BY_BELL: return latestBell(time % HOURS);
                case BY_LEAVE:
                case IN_PART_BY_LEAVE: return leave[from];
                case NOT_BY_LEAVE: return words[need];
                default: return NONE;
            }
        }

        int causeBehind(int reason, int from, int need) {
            switch (reason) {
                case LITTLE_PAPER: return pagesToTell(from, need);
                case MUCH_FAST:
                case IN_PART_BY_LEAVE:
                case NOT_BY_LEAVE: return fastToTell(from, need, isSpeechAt(time % HOURS));
                case BY_LEAVE: return leave[from] - words[need];
                default: return NONE;
            }
        }

        // ---- refusals

        int wantRefusal(int monk, int need) {
            return isMember(need, wants[monk]) ? ALREADY_WANTED : ALLOWED;
        }

        int tellRefusal(int from, int to, int need, int way) {
            if (way == SIGN && !isMember(need, knows[from])) {
                return TELLER_KNOWS_NOT;
            }
            if (way == SIGN && !isMember(need, knows[to])) {
                return HEARER_KNOWS_NOT;
            }
            if (way == SLIP && pagesToTell(from, need) > paper) {
                return LITTLE_PAPER;
            }
            if (way == VOICE && fast[from] + fastToTell(from, need, isSpeechAt(time % HOURS)) > MAX_FAST) {
                return MUCH_FAST;
            }
            return ALLOWED;
        }

        int giveRefusal(int from, int to, int wordsOfLeave) {
            if (rank[from] != ELDER) {
                return NO_ELDER;
            }
            if (fast[from] > 0) {
                return GIVER_FASTS;
            }
            if (fast[to] > 0) {
                return TAKER_FASTS;
            }
            if (given[from] + wordsOfLeave > grant) {
                return ABOVE_GRANT;
            }
            return leave[to] + wordsOfLeave > MAX_LEAVE ? MUCH_LEAVE : ALLOWED;
        }

        int passRefusal(int hours) {
            return time + hours > MAX_TIME ? LATE : ALLOWED;
        }

        // ---- deeds, each behind its refusal

        int addWant(int monk, int need) {
            wants[monk] |= 1 << need;
            return Integer.bitCount(wants[monk]);
        }

        int tellNeed(int from, int to, int need, int way) {
            int answer;
            if (way == SIGN) {
                accounts[TOLD_BY_SIGN]++;
                answer = Integer.bitCount(knows[from] & knows[to]);
            } else {
                answer = way == SLIP ? writeSlip(from, need) : speak(from, need, isSpeechAt(time % HOURS));
                learnSign(from, to, need);
            }
            meetWant(from, to, need);
            return answer;
        }

        private int writeSlip(int from, int need) {
            int pages = pagesToTell(from, need);
            paper -= pages;
            accounts[TOLD_BY_SLIP]++;
            accounts[PAGES_TAKEN] += pages;
            return pages;
        }

        private int speak(int from, int need, boolean isSpeech) {
            int byLeave = leaveToTell(from, need, isSpeech);
            int rest = restToTell(from, need, isSpeech);
            int days = fastFor(rank[from], rest);
            leave[from] -= byLeave;
            fast[from] += days;
            voiceWords += words[need];
            accounts[TOLD_BY_VOICE]++;
            accounts[BELL_WORDS] += isSpeech ? words[need] : 0;
            accounts[LEAVE_WORDS] += byLeave;
            accounts[BREACH_WORDS] += rest;
            accounts[FAST_LAID_ON] += days;
            if (rest > 0) {
                accounts[BREACHES]++;
                broke[from] = 1;
            }
            return days;
        }

        private void learnSign(int from, int to, int need) {
            if (isMember(need, knows[from]) && !isMember(need, knows[to])) {
                knows[to] |= 1 << need;
                accounts[SIGNS_LEARNED]++;
            }
        }

        private void meetWant(int from, int to, int need) {
            if (isMember(need, wants[from]) && rank[to] >= rank[from]) {
                wants[from] &= ~(1 << need);
                accounts[WANTS_MET]++;
            }
        }

        int giveLeave(int from, int to, int wordsOfLeave) {
            leave[to] += wordsOfLeave;
            given[from] += wordsOfLeave;
            accounts[LEAVE_GIVEN] += wordsOfLeave;
            return leave[to];
        }

        int passHours(int hours) {
            int daysEnded = 0;
            for (int i = 0; i < hours; i++) {
                time++;
                if (time % HOURS == 0) {
                    endDay();
                    daysEnded++;
                }
            }
            return daysEnded;
        }

        private void endDay() {
            for (int monk = 0; monk < monkCount; monk++) {
                accounts[LEAVE_EXPIRED] += leave[monk];
                leave[monk] = 0;
                if (broke[monk] == 0 && fast[monk] > 0) {
                    fast[monk]--;
                    accounts[FAST_KEPT]++;
                }
                given[monk] = 0;
                broke[monk] = 0;
            }
        }

        /** The fast of all monks behind some hours; reckoned, as TIME has no end here. */
        int fastBehind(int hours) {
            int daysEnded = (time % HOURS + hours) / HOURS;
            int sum = 0;
            for (int monk = 0; monk < monkCount; monk++) {
                int daysKept = Math.max(daysEnded - broke[monk], 0);
                sum += Math.max(fast[monk] - daysKept, 0);
            }
            return sum;
        }
    }

    /** The houses ahead of the latest changes, in a ring that is made once and used again. */
    private static final class History {
        private final House[] past = new House[MAX_UNDO];
        private int oldest;
        int size;

        History() {
            for (int i = 0; i < MAX_UNDO; i++) {
                past[i] = new House();
            }
        }

        void remember(House house) {
            past[(oldest + size) % MAX_UNDO].copyFrom(house);
            if (size < MAX_UNDO) {
                size++;
            } else {
                oldest = (oldest + 1) % MAX_UNDO;
            }
        }

        void bringBack(House house) {
            if (size > 0) {
                size--;
                house.copyFrom(past[(oldest + size) % MAX_UNDO]);
            }
        }
    }

    /**
     * The text buffer and the reading of it. The reader stands at one token, which is not yet taken;
     * so every error is at this token's first byte, also that of a deed, which is done at its semicolon.
     */
    private static final class TextReader {
        private static final int END = 0;

        private final int[] text = new int[MAX_TEXT];
        final House told = new House();
        int length;
        int error;
        int errorAt = NONE;
        private int start;
        private int end;

        static int bytesIn(int four) {
            int bytes = 0;
            for (int shift = 24; shift >= 0; shift -= 8) {
                if (((four >>> shift) & 255) != 0) {
                    bytes++;
                }
            }
            return bytes;
        }

        void addBytes(int four) {
            for (int shift = 24; shift >= 0; shift -= 8) {
                int value = (four >>> shift) & 255;
                if (value != 0 && length < MAX_TEXT) {
                    text[length] = value;
                    length++;
                }
            }
        }

        boolean readText() {
            errorAt = NONE;
            end = 0;
            told.clear();
            nextToken();
            if (!readPaper() || !readGrant() || !readNeeds() || !readMonks() || !readBells()) {
                return false;
            }
            for (int i = 0; i < MAX_TEXT && start < length; i++) {
                if (!readDeed()) {
                    return false;
                }
            }
            return true;
        }

        // ---- tokens

        /** Goes on to the next token: a word, a number, any other byte, or the end of the text. */
        private void nextToken() {
            int at = end;
            while (at < length && text[at] == ' ') {
                at++;
            }
            start = at;
            while (at < length && text[at] >= 'a' && text[at] <= 'z') {
                at++;
            }
            if (at == start) {
                while (at < length && text[at] >= '0' && text[at] <= '9') {
                    at++;
                }
            }
            if (at == start && at < length) {
                at++;
            }
            end = at;
        }

        private int firstByte() {
            return start < length ? text[start] : END;
        }

        private boolean fail(int code) {
            error = code;
            errorAt = start;
            return false;
        }

        private boolean isWord(String word) {
            if (end - start != word.length()) {
                return false;
            }
            for (int i = 0; i < word.length(); i++) {
                if (text[start + i] != word.charAt(i)) {
                    return false;
                }
            }
            return true;
        }

        private boolean takeWord(String word) {
            if (!isWord(word)) {
                return false;
            }
            nextToken();
            return true;
        }

        private boolean takeSemicolon() {
            if (firstByte() != ';') {
                return fail(SYNTAX_ERROR);
            }
            nextToken();
            return true;
        }

        /** The number here, NONE with an error. */
        private int takeNumber(int least, int most) {
            if (firstByte() < '0' || firstByte() > '9') {
                fail(SYNTAX_ERROR);
                return NONE;
            }
            int value = 0;
            for (int at = start; at < end; at++) {
                // Any number of digits may come: behind the range it does not matter how far.
                value = Math.min(value * 10 + text[at] - '0', most + 1);
            }
            if (value < least || value > most) {
                fail(VALUE_ERROR);
                return NONE;
            }
            nextToken();
            return value;
        }

        /** The name here, which is not yet taken; NO_NAME with an error. */
        private int nameHere() {
            if (firstByte() < 'a' || firstByte() > 'z' || end - start > MAX_NAME) {
                fail(SYNTAX_ERROR);
                return Name.NO_NAME;
            }
            int name = Name.NO_NAME;
            for (int at = start; at < end; at++) {
                name = Name.with(name, text[at]);
            }
            return name;
        }

        /** The monk named here, who must be another one than the one given; NONE with an error. */
        private int takeMonk(int another) {
            int name = nameHere();
            if (name == Name.NO_NAME) {
                return NONE;
            }
            int monk = told.monkNamed(name);
            if (monk == NONE) {
                fail(UNKNOWN);
                return NONE;
            }
            if (monk == another) {
                fail(TWICE);
                return NONE;
            }
            nextToken();
            return monk;
        }

        /** The need named here, which must not be in the set; NONE with an error. */
        private int takeNeed(int set) {
            int name = nameHere();
            if (name == Name.NO_NAME) {
                return NONE;
            }
            int need = told.needNamed(name);
            if (need == NONE) {
                fail(UNKNOWN);
                return NONE;
            }
            if (House.isMember(need, set)) {
                fail(TWICE);
                return NONE;
            }
            nextToken();
            return need;
        }

        // ---- what the house is

        private boolean readPaper() {
            if (!takeWord("paper")) {
                return true;
            }
            int pages = takeNumber(0, MAX_PAPER);
            if (pages == NONE) {
                return false;
            }
            told.paper = pages;
            return takeSemicolon();
        }

        private boolean readGrant() {
            if (!takeWord("grant")) {
                return true;
            }
            int words = takeNumber(0, MAX_GRANT);
            if (words == NONE) {
                return false;
            }
            told.grant = words;
            return takeSemicolon();
        }

        private boolean readNeeds() {
            for (int need = 0; need < MAX_NEEDS; need++) {
                if (!takeWord("need")) {
                    return need > 0 || fail(SYNTAX_ERROR);
                }
                if (!readNeed()) {
                    return false;
                }
            }
            return !isWord("need") || fail(TOO_MANY);
        }

        private boolean readNeed() {
            int name = nameHere();
            if (name == Name.NO_NAME) {
                return false;
            }
            if (told.needNamed(name) != NONE) {
                return fail(TWICE);
            }
            nextToken();
            int words = takeNumber(1, MAX_WORDS);
            if (words == NONE) {
                return false;
            }
            told.addNeed(name, words);
            return takeSemicolon();
        }

        private boolean readMonks() {
            for (int monk = 0; monk < MAX_MONKS; monk++) {
                int rank = rankHere();
                if (rank == NONE) {
                    return monk > 0 || fail(SYNTAX_ERROR);
                }
                nextToken();
                if (!readMonk(rank)) {
                    return false;
                }
            }
            return rankHere() == NONE || fail(TOO_MANY);
        }

        private int rankHere() {
            if (isWord("novice")) {
                return NOVICE;
            }
            if (isWord("brother")) {
                return BROTHER;
            }
            return isWord("elder") ? ELDER : NONE;
        }

        private boolean readMonk(int rank) {
            int name = nameHere();
            if (name == Name.NO_NAME) {
                return false;
            }
            if (told.monkNamed(name) != NONE) {
                return fail(TWICE);
            }
            nextToken();
            int knows = 0;
            // One more than there are needs: no text has so many that are not told twice.
            for (int i = 0; i <= MAX_NEEDS && firstByte() != ';'; i++) {
                int need = takeNeed(knows);
                if (need == NONE) {
                    return false;
                }
                knows |= 1 << need;
            }
            told.addMonk(name, rank, knows);
            return takeSemicolon();
        }

        private boolean readBells() {
            for (int i = 0; i < MAX_TEXT && takeWord("bell"); i++) {
                if (!readBell()) {
                    return false;
                }
            }
            return true;
        }

        private boolean readBell() {
            int hour = takeNumber(0, HOURS - 1);
            if (hour == NONE) {
                return false;
            }
            if (takeWord("speech")) {
                told.bells[hour] = SPEECH_BELL;
            } else if (takeWord("silence")) {
                told.bells[hour] = SILENCE_BELL;
            } else {
                return fail(SYNTAX_ERROR);
            }
            return takeSemicolon();
        }

        // ---- what is done in it

        private boolean readDeed() {
            if (takeWord("want")) {
                return readWant();
            }
            if (takeWord("tell")) {
                return readTell();
            }
            if (takeWord("give")) {
                return readGive();
            }
            return takeWord("wait") ? readWait() : fail(SYNTAX_ERROR);
        }

        private boolean readWant() {
            int monk = takeMonk(NONE);
            if (monk == NONE) {
                return false;
            }
            int need = takeNeed(0);
            if (need == NONE || !takeEndOfDeed(told.wantRefusal(monk, need))) {
                return false;
            }
            told.addWant(monk, need);
            return true;
        }

        private boolean readTell() {
            int from = takeMonk(NONE);
            if (from == NONE) {
                return false;
            }
            int to = takeMonk(from);
            if (to == NONE) {
                return false;
            }
            int need = takeNeed(0);
            if (need == NONE) {
                return false;
            }
            int way = wayHere();
            if (way == NONE) {
                return fail(SYNTAX_ERROR);
            }
            nextToken();
            if (!takeEndOfDeed(told.tellRefusal(from, to, need, way))) {
                return false;
            }
            told.tellNeed(from, to, need, way);
            return true;
        }

        private int wayHere() {
            if (isWord("sign")) {
                return SIGN;
            }
            if (isWord("slip")) {
                return SLIP;
            }
            return isWord("voice") ? VOICE : NONE;
        }

        private boolean readGive() {
            int from = takeMonk(NONE);
            if (from == NONE) {
                return false;
            }
            int to = takeMonk(from);
            if (to == NONE) {
                return false;
            }
            int words = takeNumber(1, MAX_GIFT);
            if (words == NONE || !takeEndOfDeed(told.giveRefusal(from, to, words))) {
                return false;
            }
            told.giveLeave(from, to, words);
            return true;
        }

        private boolean readWait() {
            int hours = takeNumber(1, MAX_WAIT);
            if (hours == NONE || !takeEndOfDeed(told.passRefusal(hours))) {
                return false;
            }
            told.passHours(hours);
            return true;
        }

        /** Takes the semicolon behind a deed, if the deed itself is allowed. */
        private boolean takeEndOfDeed(int reason) {
            if (firstByte() == ';' && reason != ALLOWED) {
                return fail(REFUSED);
            }
            return takeSemicolon();
        }
    }

    /** The text that was written last; it is kept as bytes, as undo does not bring it back. */
    private static final class WrittenText {
        private static final int MOST_BYTES = (2 * MAX_NEEDS + 1) * (MAX_NAME + 1);

        final int[] bytes = new int[MOST_BYTES];
        int length;

        void addByte(int value) {
            if (length < MOST_BYTES) {
                bytes[length] = value;
                length++;
            }
        }

        void addName(int name) {
            for (int place = 0; place < MAX_NAME; place++) {
                int letter = Name.letterAt(name, place);
                if (letter != 0) {
                    addByte(letter);
                }
            }
        }

        void addNeeds(House house, int set) {
            boolean isFirst = true;
            for (int need = 0; need < house.needCount; need++) {
                if (House.isMember(need, set)) {
                    if (!isFirst) {
                        addByte(' ');
                    }
                    addName(house.needNames[need]);
                    isFirst = false;
                }
            }
        }

        /** Adds a number from 0 to MAX_TIME. */
        void addNumber(int number) {
            boolean isBegun = false;
            for (int unit = 1000; unit > 0; unit /= 10) {
                int digit = number / unit % 10;
                if (digit != 0 || isBegun || unit == 1) {
                    addByte('0' + digit);
                    isBegun = true;
                }
            }
        }
    }
}
