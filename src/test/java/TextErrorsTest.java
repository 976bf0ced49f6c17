/** What load answers to texts with and without errors: the grammar, every error code, and the order of the codes. */
public final class TextErrorsTest {

    private static final int SYNTAX = SilentMonks.SYNTAX_ERROR;
    private static final int VALUE = SilentMonks.VALUE_ERROR;
    private static final int UNKNOWN = SilentMonks.UNKNOWN;
    private static final int TWICE = SilentMonks.TWICE;
    private static final int MANY = SilentMonks.TOO_MANY;
    private static final int REFUSED = SilentMonks.REFUSED;

    private static final String TWO = "need a 4;elder b a;novice c;";

    public static void main(String[] args) {
        rightTexts();
        beginnings();
        needs();
        monks();
        bells();
        wants();
        tells();
        gives();
        waits();
        strangeBytes();
        longestTexts();
        partsThatMayLack();
        ranges();
        zerosAtTheBeginning();
        lettersOfNames();
        namesOfTheGrammar();
        spaces();
        everyTokenBroken();
        anyNumberOfRepetitions();
        toldAgain();
        firstOfTwoErrors();
        severalCodes();
        refusedByEachReason();
        Kit.end();
    }

    /** In the text a ^ stands where the error is; there is none in it if there is no error. */
    private static void reads(String marked, int answer) {
        int at = marked.indexOf('^');
        String text = at < 0 ? marked : marked.substring(0, at) + marked.substring(at + 1);
        Run x = new Run();
        Kit.due("load of " + text, Kit.load(x, text), answer);
        Kit.due("error position of " + text, x.errorPosition(), at < 0 ? SilentMonks.NONE : at);
        Kit.due("changes behind " + text, x.count(12), answer > 0 ? 1 : 0);
        if (answer < 0) {
            Kit.due("all behind " + text, Kit.everything(x), Kit.everything(new Run()));
        }
    }

    private static void rightTexts() {
        reads("need a 1;elder b;", 1);
        reads("need a1;elder b;", 1);
        reads("  need  a  1  ;  elder  b  a  ;  ", 1);
        reads("paper000099;grant00050;need a 00020;novice b;bell 0023speech;bell 00 silence;wait 00099;", 1);
        reads("paper 0;grant 0;need a 1;brother b;brother c;tell b c a voice;", 2);
        reads("grant 3;need a 1;brother b;", 1);
        reads("need need 1;need bell 2;elder elder need bell;novice novice;want elder bell;"
            + "tell elder novice need slip;give elder novice 3;wait 1;", 2);
        reads("need paper 1;elder paper paper;novice grant;want grant paper;tell paper grant paper voice;", 2);
        reads("need a 1;elder a a;", 1);
        reads(Kit.needs(8) + Kit.monks(12), 12);
    }

    private static void beginnings() {
        reads("^", SYNTAX);
        reads("    ^", SYNTAX);
        reads("paper^", SYNTAX);
        reads("paper ^;need a 1;elder b;", SYNTAX);
        reads("paper ^a;need a 1;elder b;", SYNTAX);
        reads("paper 5 ^need a 1;elder b;", SYNTAX);
        reads("paper 5;^", SYNTAX);
        reads("paper ^100;need a 1;elder b;", VALUE);
        reads("paper ^00000000000100", VALUE);
        reads("paper ^99999999999999999999999999999999999999999;", VALUE);
        reads("paper ^4294967296;", VALUE);
        reads("paper ^-1;", SYNTAX);
        reads("paper 5;^paper 5;need a 1;elder b;", SYNTAX);
        reads("grant ^51;need a 1;elder b;", VALUE);
        reads("grant 5;^paper 5;need a 1;elder b;", SYNTAX);
        reads("grant 5;^grant 5;need a 1;elder b;", SYNTAX);
        reads("^papers 5;need a 1;elder b;", SYNTAX);
        reads("^Paper 5;need a 1;elder b;", SYNTAX);
        reads("^elder b;", SYNTAX);
        reads("^;need a 1;elder b;", SYNTAX);
    }

    private static void needs() {
        reads("^needa 1;elder b;", SYNTAX);
        reads("need ^1;elder b;", SYNTAX);
        reads("need ^;elder b;", SYNTAX);
        reads("need ^brother b;", SYNTAX);
        reads("need^", SYNTAX);
        reads("need  ^", SYNTAX);
        reads("need a^", SYNTAX);
        reads("need a ^;", SYNTAX);
        reads("need a ^b;", SYNTAX);
        reads("need abcdef 1^", SYNTAX);
        reads("need abcdef 1  ^", SYNTAX);
        reads("need ^abcdefg 1;elder b;", SYNTAX);
        reads("need a 1 ^1;elder b;", SYNTAX);
        reads("need a 1^b;elder b;", SYNTAX);
        reads("need a ^0;elder b;", VALUE);
        reads("need a ^21;elder b;", VALUE);
        reads("need a 1;need ^a 1;elder b;", TWICE);
        reads("need a 1;need ^a 0", TWICE);
        reads("need a 1;need ^aaaaaaa 1;elder b;", SYNTAX);
        reads("need a 1;need aa 1;elder b;", 1);
        reads("need a 1;^paper 5;elder b;", SYNTAX);
        reads("need a 1;^", SYNTAX);
        reads("need a 1;^bell 3 speech;", SYNTAX);
        reads("need a 1;^wait 1;", SYNTAX);
        reads(Kit.needs(8) + "^need", MANY);
        reads(Kit.needs(8) + "  ^need a 0;", MANY);
        reads(Kit.needs(8) + "^needs a 1;", SYNTAX);
        reads(Kit.needs(8) + "^", SYNTAX);
    }

    private static void monks() {
        reads("need a 1;elder^", SYNTAX);
        reads("need a 1;elder ^;", SYNTAX);
        reads("need a 1;elder ^1;", SYNTAX);
        reads("need a 1;elder b^", SYNTAX);
        reads("need a 1;elder b ^1;", SYNTAX);
        reads("need a 1;elder b a^", SYNTAX);
        reads("need a 1;elder ^brother;", SYNTAX);
        reads("need a 1;elder ^brother b;", SYNTAX);
        reads("need a 1;elder brothe;", 1);
        reads("need a 1;^elders b;", SYNTAX);
        reads("need a 1;^elderb;", SYNTAX);
        reads("need a 1;elder b ^c;", UNKNOWN);
        reads("need a 1;elder b ^b;", UNKNOWN);
        reads("need a 1;elder b ^abcdefg;", SYNTAX);
        reads("need a 1;elder b a ^a;", TWICE);
        reads("need a 1;need c 1;elder b c a ^c;", TWICE);
        reads(Kit.needs(8) + "elder b a b c d e f g h ^a;", TWICE);
        reads(Kit.needs(8) + "elder b a b c d e f g h ^i;", UNKNOWN);
        reads(Kit.needs(8) + "elder b h g f e d c b a;", 1);
        reads("need a 1;elder b;novice ^b;", TWICE);
        reads("need a 1;elder b;novice ^b c", TWICE);
        reads("need a 1;elder b;novice a;", 2);
        reads("need a 1;elder b;^need c 1;", SYNTAX);
        reads("need a 1;elder b;^monk c;", SYNTAX);
        reads("need a 1;elder b;^5", SYNTAX);
        reads("need a 1;elder b;^;", SYNTAX);
        reads("need a 1;" + Kit.monks(12) + "^novice", MANY);
        reads("need a 1;" + Kit.monks(12) + "^brother a z;", MANY);
        reads("need a 1;" + Kit.monks(12) + "^elder", MANY);
        reads("need a 1;" + Kit.monks(12) + "^elde", SYNTAX);
        reads("need a 1;" + Kit.monks(12) + "bell 1 speech;^elder z;", SYNTAX);
    }

    private static void bells() {
        reads(TWO + "bell^", SYNTAX);
        reads(TWO + "bell ^speech;", SYNTAX);
        reads(TWO + "bell ^24 speech;", VALUE);
        reads(TWO + "bell ^024", VALUE);
        reads(TWO + "bell 23^", SYNTAX);
        reads(TWO + "bell 23 ^;", SYNTAX);
        reads(TWO + "bell 23 ^sign;", SYNTAX);
        reads(TWO + "bell 23 ^speeches;", SYNTAX);
        reads(TWO + "bell 23 speech^", SYNTAX);
        reads(TWO + "bell 23 speech ^speech;", SYNTAX);
        reads(TWO + "bell 1 speech;bell 1 silence;", 2);
        reads(TWO + "bell 1 speech;^novice d;", SYNTAX);
        reads(TWO + "wait 1;^bell 1 speech;", SYNTAX);
    }

    private static void wants() {
        reads(TWO + "want^", SYNTAX);
        reads(TWO + "want ^1", SYNTAX);
        reads(TWO + "want ^d a;", UNKNOWN);
        reads(TWO + "want ^a a;", UNKNOWN);
        reads(TWO + "want ^bbbbbbb a;", SYNTAX);
        reads(TWO + "want b^", SYNTAX);
        reads(TWO + "want b ^;", SYNTAX);
        reads(TWO + "want b ^b;", UNKNOWN);
        reads(TWO + "want b a^", SYNTAX);
        reads(TWO + "want b a ^a;", SYNTAX);
        reads(TWO + "want b a;want c a;want b a^;", REFUSED);
        reads(TWO + "want b a;want b a^", SYNTAX);
        reads(TWO + "want b a;want b a ^wait 1;", SYNTAX);
        reads(TWO + "want b a;want b a  ^;wait 0;", REFUSED);
        reads(TWO + "want b a;tell b c a slip;want b a^;", REFUSED);
        reads(TWO + "want c a;tell c b a slip;want c a;", 2);
        reads(TWO + "^wants b a;", SYNTAX);
    }

    private static void tells() {
        reads(TWO + "tell^", SYNTAX);
        reads(TWO + "tell ^x c a sign;", UNKNOWN);
        reads(TWO + "tell b ^x a sign;", UNKNOWN);
        reads(TWO + "tell b ^b a sign;", TWICE);
        reads(TWO + "tell b ^b", TWICE);
        reads(TWO + "tell b ^1 a sign;", SYNTAX);
        reads(TWO + "tell b c ^b sign;", UNKNOWN);
        reads(TWO + "tell b c ^sign;", UNKNOWN);
        reads(TWO + "tell b c ^;", SYNTAX);
        reads(TWO + "tell b c a^", SYNTAX);
        reads(TWO + "tell b c a ^;", SYNTAX);
        reads(TWO + "tell b c a ^speech;", SYNTAX);
        reads(TWO + "tell b c a ^signs;", SYNTAX);
        reads(TWO + "tell b c a sign^", SYNTAX);
        reads(TWO + "tell b c a sign ^slip;", SYNTAX);
        reads(TWO + "tell b c a sign^;", REFUSED);
        reads(TWO + "tell c b a sign ^;", REFUSED);
        reads(TWO + "tell b c a slip;tell b c a sign;", 2);
        reads("paper 0;" + TWO + "tell b c a slip^;", REFUSED);
        reads("paper 1;" + TWO + "tell c b a slip^;", REFUSED);
        reads("paper 2;" + TWO + "tell c b a slip;tell b c a slip^;", REFUSED);
        String bread = "need a 20;elder b;novice c;" + "tell b c a voice;".repeat(12);
        reads(bread, 2);
        reads(bread + "tell b c a voice^;", REFUSED);
        reads(bread + "wait 99;tell b c a voice^;", REFUSED);
        reads(bread + "wait 99;wait 99;tell b c a voice;", 2);
    }

    private static void gives() {
        reads(TWO + "give^", SYNTAX);
        reads(TWO + "give ^x c 1;", UNKNOWN);
        reads(TWO + "give b ^x 1;", UNKNOWN);
        reads(TWO + "give b ^b 0;", TWICE);
        reads(TWO + "give b c^", SYNTAX);
        reads(TWO + "give b c ^a;", SYNTAX);
        reads(TWO + "give b c ^0;", VALUE);
        reads(TWO + "give b c ^51;", VALUE);
        reads(TWO + "give c b ^51;", VALUE);
        reads(TWO + "give b c 5^", SYNTAX);
        reads(TWO + "give b c 5 ^5;", SYNTAX);
        reads(TWO + "give c b 5^;", REFUSED);
        reads(TWO + "give b c 10;", 2);
        reads(TWO + "give b c 11^;", REFUSED);
        reads("grant 50;" + TWO + "give b c 50;wait 23;give b c 1^;", REFUSED);
        reads("grant 50;" + TWO + "give b c 50;wait 24;give b c 50;", 2);
        reads("grant 50;" + TWO + "elder d;give b c 50;give d c 50^;", REFUSED);
        reads(TWO + "tell b c a voice;give b c 1^;", REFUSED);
        reads(TWO + "tell c b a voice;give b c 1^;", REFUSED);
        reads("grant 50;" + TWO + "tell c b a voice;wait 24;wait 24;give b c 50;", 2);
    }

    private static void waits() {
        reads(TWO + "wait^", SYNTAX);
        reads(TWO + "wait ^b;", SYNTAX);
        reads(TWO + "wait ^0;", VALUE);
        reads(TWO + "wait ^100;", VALUE);
        reads(TWO + "wait 99^", SYNTAX);
        reads(TWO + "wait 99 ^99;", SYNTAX);
        reads(TWO + "wait 99;^wai", SYNTAX);
        String late = "need a 1;elder b;" + "wait99;".repeat(101);
        reads(late, 1);
        reads(late + "wait1^;", REFUSED);
        reads(late + "wait1^", SYNTAX);
    }

    private static void strangeBytes() {
        for (int value = 1; value <= 255; value++) {
            char sign = (char) value;
            if (sign != ' ' && sign != '^') {
                reads("need a 1;^" + sign + "elder b;", SYNTAX);
                reads(TWO + " ^" + sign, SYNTAX);
            }
            if (sign != ' ' && sign != '^' && sign != ';' && (sign < '0' || sign > '9')) {
                reads("need a 1^" + sign + "elder b;", SYNTAX);
            }
        }
    }

    /** Texts of 800 bytes: the end of the text is the end of the buffer, too. */
    private static void longestTexts() {
        reads(Kit.padded("need a 1;elder b;", 800), 1);
        reads(Kit.padded("need a 1;elder b", 800) + "^", SYNTAX);
        reads(Kit.padded(TWO, 795) + "^need1", SYNTAX);
        reads(Kit.padded(TWO, 796) + "wait^", SYNTAX);
        reads(Kit.padded(TWO, 798) + "^1;", SYNTAX);
        reads(Kit.padded(TWO, 794) + "wait 1^", SYNTAX);
        reads(Kit.padded(TWO, 793) + "wait 1;", 2);
        reads(Kit.padded(TWO, 799) + "^?", SYNTAX);
        reads(Kit.padded(TWO, 789) + "want b ^abc", UNKNOWN);
        Run x = new Run();
        Kit.load(x, Kit.padded(TWO, 793) + "wait 1;");
        Kit.due("a shorter text behind a longer one", Kit.load(x, Kit.padded(TWO, 700) + "wait"), SYNTAX);
        Kit.due("its error position", x.errorPosition(), 704);
    }

    // ---- the sentences of section 4, one after the other

    /** "brackets that a part may lack", "PAPER is 20 and GRANT 10 if they are not told" */
    private static void partsThatMayLack() {
        String[] texts = {"", "paper 7;", "grant 8;", "paper 7;grant 8;"};
        int[][] due = {{20, 10}, {7, 10}, {20, 8}, {7, 8}};
        for (int i = 0; i < texts.length; i++) {
            Run x = Kit.house("paper 1;grant 2;need z 1;elder z;");
            Kit.due("load with " + texts[i], Kit.load(x, texts[i] + "need a 1;elder b;"), 1);
            Kit.due("paper by " + texts[i], x.count(2), due[i][0]);
            Kit.due("grant by " + texts[i], x.count(3), due[i][1]);
        }
        Run x = Kit.house("paper 0;grant 0;need a 1;elder b;");
        Kit.due("paper and grant of 0", "" + x.count(2) + x.count(3), "00");
    }

    /** "VALUE_ERROR: a number out of its range (at its first digit).": each range at its ends and one beyond. */
    private static void ranges() {
        range("", "paper ", 0, 99, ";need a 1;elder b;");
        range("", "grant ", 0, 50, ";need a 1;elder b;");
        range("", "need a ", 1, 20, ";elder b;");
        range("need a 1;need c 1;", "need d ", 1, 20, ";elder b;");
        range("need a 1;elder b;", "bell ", 0, 23, " speech;");
        range("need a 1;elder b;", "bell ", 0, 23, " silence;");
        range("grant 50;need a 1;elder b;elder c;", "give b c ", 1, 50, ";");
        range("need a 1;elder b;", "wait ", 1, 99, ";");
        Run hours = Kit.house("need a 1;elder b;bell 0 speech;bell 23 silence;wait 1;wait 99;");
        Kit.due("the first and the last hour", "" + hours.bell(0) + hours.bell(23) + hours.count(4), "21100");
        Run words = Kit.house("grant 50;need a 1;elder b;elder c;give b c 1;give c b 50;");
        Kit.due("the fewest and the most words", "" + words.monk(1, 1) + " " + words.monk(0, 1), "1 50");
    }

    private static void range(String ahead, String deed, int least, int most, String behind) {
        for (int number = 0; number <= 130; number++) {
            boolean isRight = number >= least && number <= most;
            int answer = isRight ? ahead.contains("elder c") ? 2 : 1 : VALUE;
            reads(ahead + deed + (isRight ? "" : "^") + number + behind, answer);
        }
        String[] large = {"1000", "9999", "32768", "65536", "65537", "2147483647", "2147483648", "4294967295", "4294967296",
            "4294967297", "4294967306", "18446744073709551617", "1" + "0".repeat(40), "9".repeat(200)};
        for (String number : large) {
            reads(ahead + deed + "^" + number + behind, VALUE);
            reads(ahead + deed + "^000" + number + behind, VALUE);
        }
        reads(ahead + deed + "^-" + least + behind, SYNTAX);
        reads(ahead + deed + "^+" + most + behind, SYNTAX);
        reads(ahead + deed + most + "^.0" + behind, SYNTAX);
        reads(ahead + deed + "^a" + behind, SYNTAX);
        reads(ahead + deed + "^" + behind.substring(behind.startsWith(" ") ? 1 : 0), SYNTAX);
    }

    /** "(zeros at its beginning do not matter)" */
    private static void zerosAtTheBeginning() {
        for (int zeros = 0; zeros <= 100; zeros++) {
            String some = "0".repeat(zeros);
            Run x = Kit.house("paper " + some + "99;grant " + some + "0;need a " + some + "20;elder b;elder c;bell " + some
                + "7 speech;wait " + some + "30;");
            Kit.due("numbers behind " + zeros, "" + x.count(2) + " " + x.count(3) + " " + x.need(0, 0) + " " + x.bell(7) + " "
                + x.count(4), "99 0 20 2 30");
        }
        reads("need a ^0000000000000000000;elder b;", VALUE);
        reads("need a ^" + "0".repeat(300) + "21;elder b;", VALUE);
        Run hours = Kit.house("need a 1;elder b;bell 00 speech;bell 0000000000000 silence;");
        Kit.due("hour 0 behind zeros", hours.bell(0) + hours.count(6), 2);
    }

    /** "a NAME is a word of at most 6 letters", "a longer one is a SYNTAX_ERROR at its first byte": in all its places. */
    private static void lettersOfNames() {
        String[] ahead = {"need ", "need a 1;elder ", "need NAME 1;elder b ", "need a 1;elder NAME;want ",
            "need NAME 1;elder b;want b ", "need a 1;elder NAME;novice c;tell ", "need a 1;elder NAME;novice c;tell c ",
            "need NAME 1;elder b;novice c;tell b c ", "need a 1;elder NAME;novice c;give ", "need a 1;novice NAME;elder c;give c "};
        String[] behind = {" 1;elder b;", ";", ";", " a;", ";", " c a voice;", " a voice;", " voice;", " c 1;", " 1;"};
        for (int i = 0; i < ahead.length; i++) {
            for (int letters = 1; letters <= 6; letters++) {
                String name = "zyxwvu".substring(0, letters);
                reads(ahead[i].replace("NAME", name) + name + behind[i], ahead[i].contains(" c;") || ahead[i].contains("elder c") ? 2 : 1);
            }
            reads(ahead[i].replace("NAME", "zyxwvu") + "^zyxwvut" + behind[i], SYNTAX);
            reads(ahead[i].replace("NAME", "zyxwvu") + "^zyxwvuzyxwvu" + behind[i], SYNTAX);
            reads(ahead[i].replace("NAME", "zyxwvu") + "^" + "z".repeat(300) + behind[i], SYNTAX);
            reads(ahead[i].replace("NAME", "zyxwvu") + "^Zyxwvu" + behind[i], SYNTAX);
            reads(ahead[i].replace("NAME", "zyxwvu") + "^7" + behind[i], SYNTAX);
        }
        Run x = Kit.house("need abcxyz 1;elder zyxabc abcxyz;");
        Kit.due("first and last letters", Kit.monkText(x, 0), "zyxabc:abcxyz/");
    }

    /** "(also one that the grammar has": each word of the grammar that is no longer than six letters. */
    private static void namesOfTheGrammar() {
        String[] words = {"paper", "grant", "need", "novice", "elder", "bell", "speech", "want", "tell", "sign", "slip", "voice",
            "give", "wait"};
        for (String word : words) {
            String text = "need " + word + " 3;elder " + word + " " + word + ";novice x;want " + word + " " + word + ";tell "
                + word + " x " + word + " slip;give " + word + " x 2;";
            reads(text, 2);
            Kit.due("the name " + word, Kit.monkText(Kit.house(text), 0), word + ":" + word + "/" + word);
            Kit.due("the sign " + word, Kit.monkText(Kit.house(text), 1), "x:" + word + "/");
        }
        reads("need ^brother 3;elder b;", SYNTAX);
        reads("need a 3;elder ^silence;", SYNTAX);
    }

    /** "Spaces (byte 32) may stand in front of every token and at the end of the text." */
    private static void spaces() {
        String[] tokens = TOKENS.split(" ");
        for (int count = 1; count <= 3; count++) {
            StringBuilder text = new StringBuilder();
            for (String token : tokens) {
                text.append(" ".repeat(count)).append(token);
            }
            reads(text + " ".repeat(count), 2);
        }
        reads(tight(tokens, tokens.length), 2);
        for (int i = 0; i < tokens.length; i++) {
            // A space within a token makes two of it: a word is the longest possible one, and so is a number.
            if (tokens[i].length() > 1) {
                StringBuilder text = new StringBuilder();
                for (int j = 0; j < tokens.length; j++) {
                    text.append(' ').append(j == i ? tokens[j].charAt(0) + " " + tokens[j].substring(1) : tokens[j]);
                }
                Run x = new Run();
                Kit.due("a space within " + tokens[i], Kit.load(x, text.toString()) < 0, true);
            }
        }
        reads("need a 1 ^2;elder b;", SYNTAX);
        reads("need a 12;elder b;bell 2 ^3 speech;", SYNTAX);
        reads("need a 12;elder b;wait 1 ^0;", SYNTAX);
        reads("^n eed a 1;elder b;", SYNTAX);
        reads("need a ^b 1;elder c;", SYNTAX);
        reads("need ab 1;elder c ^a b;", UNKNOWN);
        reads("need a 1;need b 1;need ab 1;elder c a b;", 1);
        for (int sign : new int[] {9, 10, 11, 12, 13, 160}) {
            reads("need a 1;" + "^" + (char) sign + "elder b;", SYNTAX);
            reads("^" + (char) sign + "need a 1;elder b;", SYNTAX);
            reads("need a 1;elder b;^" + (char) sign, SYNTAX);
        }
    }

    private static final String TOKENS = "paper 9 ; grant 9 ; need a 4 ; need bb 12 ; elder c a bb ; novice d ; bell 12 speech ; "
        + "bell 13 silence ; want c bb ; tell c d bb slip ; tell c d bb sign ; give c d 5 ; tell c d a voice ; wait 30 ;";

    /** Tokens with spaces only where two words or two numbers would become one. */
    private static String tight(String[] tokens, int count) {
        StringBuilder text = new StringBuilder();
        for (int i = 0; i < count; i++) {
            boolean isWord = Character.isLetter(tokens[i].charAt(0));
            if (i > 0 && isWord && Character.isLetter(tokens[i - 1].charAt(0))) {
                text.append(' ');
            }
            text.append(tokens[i]);
        }
        return text.toString();
    }

    /**
     * "a byte or token that is not allowed here (at its first byte), or an unexpected end of the text (at the length of
     * the text)": at each token of a text that has all sorts of them.
     */
    private static void everyTokenBroken() {
        String[] tokens = TOKENS.split(" ");
        int firstEnd = 0;
        for (int monks = 0; monks == 0 || !tokens[firstEnd].equals(";"); firstEnd++) {
            monks += tokens[firstEnd].equals("elder") ? 1 : 0;
        }
        for (int i = 0; i < tokens.length; i++) {
            String ahead = tight(tokens, i);
            // Behind the first monk the text may end behind any semicolon.
            boolean mayEnd = i > firstEnd && tokens[i - 1].equals(";");
            if (!mayEnd) {
                reads(ahead + "^", SYNTAX);
                reads(ahead + "   ^", SYNTAX);
            }
            for (String strange : new String[] {"?", "A", "Z", "@", "[", "{", "`", "/", ":", ".", "\u0001", "\u0080", "\u00ff"}) {
                reads(ahead + "^" + strange + tokens[i], SYNTAX);
                reads(ahead + "  ^" + strange, SYNTAX);
            }
            if (!tokens[i].equals(";") && !mayKnowMore(tokens, i)) {
                reads(ahead + "^;", SYNTAX);
            }
            if (!Character.isDigit(tokens[i].charAt(0)) && (i == 0 || !Character.isDigit(tokens[i - 1].charAt(0)))) {
                reads(ahead + "^5", SYNTAX);
            }
        }
    }

    /** Behind the name of a monk a semicolon may stand ahead of any sign. */
    private static boolean mayKnowMore(String[] tokens, int i) {
        int at = i;
        while (at > 0 && !tokens[at - 1].equals(";")) {
            at--;
        }
        return (tokens[at].equals("elder") || tokens[at].equals("novice")) && i > at + 1;
    }

    /** "Braces mean any number of repetitions" */
    private static void anyNumberOfRepetitions() {
        for (int needs = 1; needs <= 8; needs++) {
            for (int monks = 1; monks <= 12; monks++) {
                reads(Kit.needs(needs) + Kit.monks(monks), monks);
            }
        }
        StringBuilder bells = new StringBuilder();
        for (int i = 0; i < 48; i++) {
            bells.append("bell ").append(i * 7 % 24).append(i < 24 ? "speech;" : "silence;");
        }
        reads("need a 1;elder b;" + bells, 1);
        Kit.due("bells at all hours", Kit.house("need a 1;elder b;" + bells).count(6), 24);
        for (int deeds = 1; deeds <= 97; deeds++) {
            Run x = Kit.house("need a 1;elder b;" + "wait 25;".repeat(deeds));
            Kit.due("deeds", x.count(4), 25 * deeds);
        }
    }

    /** "bell tells an hour; one that is told again counts as it was told last" */
    private static void toldAgain() {
        String house = "need a 1;elder b;";
        Kit.due("silence last", Kit.house(house + "bell 3 speech;bell 3 silence;").bell(3), 1);
        Kit.due("speech last", Kit.house(house + "bell 3 silence;bell 3 speech;").bell(3), 2);
        Kit.due("thrice", Kit.house(house + "bell 3 silence;bell 4 silence;bell 3 speech;bell 03 silence;").bell(3), 1);
        Kit.due("bells", Kit.house(house + "bell 3 silence;bell 4 silence;bell 3 speech;bell 03 silence;").count(6), 2);
    }

    /** "Reading stops at the first error." */
    private static void firstOfTwoErrors() {
        reads("paper ^100;grant 51;?", VALUE);
        reads("grant ^51;need abcdefg 0;", VALUE);
        reads("need a ^0;need a 1;?", VALUE);
        reads("need a 1;need ^a 0;", TWICE);
        reads("need a 1;elder b ^c b;?", UNKNOWN);
        reads("need a 1;elder b a ^a c;?", TWICE);
        reads("need a 1;elder b;elder ^b c;", TWICE);
        reads("need a 1;elder b;bell ^24 sign;", VALUE);
        reads("need a 1;elder b;bell 2 ^sign;bell 24 speech;", SYNTAX);
        reads("need a 1;elder b;want ^c d;", UNKNOWN);
        reads("need a 1;elder b;tell b ^b c slap;", TWICE);
        reads("need a 1;elder b;tell ^c c d slap;", UNKNOWN);
        reads("need a 1;elder b;elder c;tell b c ^d slap;", UNKNOWN);
        reads("need a 1;elder b;elder c;tell b c a ^slap;wait 0;", SYNTAX);
        reads("need a 1;elder b;elder c;give b ^b 51;", TWICE);
        reads("need a 1;elder b;elder c;give b c ^51?", VALUE);
        reads("need a 1;elder b;elder c;give b c 11 ^?;", SYNTAX);
        reads("need a 1;elder b;elder c;give b c 11 ^;?", REFUSED);
        reads("need a 1;elder b;wait ^0;?", VALUE);
        reads(Kit.needs(8) + "^need abcdefg 0;?", MANY);
        reads("need a 1;" + Kit.monks(12) + "^elder a;?", MANY);
    }

    /** "If several error codes fit the same token, the first one in this list is reported" */
    private static void severalCodes() {
        reads("need a 1;elder b ^unknown;", SYNTAX);
        reads("need a 1;elder b;want ^unknown a;", SYNTAX);
        reads("need a 1;elder b;want b ^unknown;", SYNTAX);
        reads("need a 1;elder b;tell b ^unknown a sign;", SYNTAX);
        reads("need a 1;elder b;give b ^bbbbbbb 1;", SYNTAX);
        reads("need a 1;elder b;tell ^unknow b a sign;", UNKNOWN);
        // The need of a deed may be known to the monk already, and the monk may bear the need's name.
        reads("need b 1;elder b b;novice c;want b b;tell b c b slip;", 2);
        // The first monk of a deed may be the one of the deed ahead of it.
        reads("need a 1;elder b;novice c;give b c 1;give b c 1;tell c b a slip;", 2);
        // Beyond the most, the word counts ahead of its name.
        reads(Kit.needs(8) + "^need a 1;", MANY);
        reads(Kit.needs(8) + "^need", MANY);
        reads("need a 1;" + Kit.monks(12) + "^brother a;", MANY);
    }

    /** "REFUSED: the semicolon behind a deed that would be refused." */
    private static void refusedByEachReason() {
        String house = "paper 3;grant 50;need a 20;need z 1;elder b a;elder c;brother d;novice e a;";
        reads(house + "want b a;want b a^;", REFUSED);
        reads(house + "tell c b a sign^;", REFUSED);
        reads(house + "tell b c a sign^;", REFUSED);
        reads(house + "tell e b a slip^;", REFUSED);
        reads(house + "tell d b a slip;tell d b a slip^;", REFUSED);
        reads(house + "tell d b a voice;".repeat(24) + "tell d b a voice ^;", REFUSED);
        reads(house + "give d b 1^;", REFUSED);
        reads(house + "give e b 1^;", REFUSED);
        reads(house + "tell b c z voice;give b d 1^;", REFUSED);
        reads(house + "tell d c z voice;give b d 1^;", REFUSED);
        reads(house + "give b d 50;give b e 1^;", REFUSED);
        reads(house + "give b d 50;give c d 50^;", REFUSED);
        reads(house + "give b d 50;give c d 49;", 4);
        reads(house + "wait 99;".repeat(88) + "wait 99^", SYNTAX);
        reads("need a 1;elder b;" + "wait99;".repeat(100) + "wait99;wait1^;", REFUSED);
        reads("need a 1;elder b;" + "wait99;".repeat(100) + "wait98;wait1;", 1);
        reads("need a 1;elder b;" + "wait99;".repeat(100) + "wait98;wait2  ^;", REFUSED);
    }
}
