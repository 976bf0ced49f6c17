/** What load answers to texts with and without errors: the grammar, every error code, and the order of the codes. */
public final class TextErrorsTest {

    private static final int SYNTAX = SilentMonks.SYNTAX_ERROR;
    private static final int VALUE = SilentMonks.VALUE_ERROR;
    private static final int UNKNOWN = SilentMonks.UNKNOWN;
    private static final int TWICE = SilentMonks.TWICE;
    private static final int MANY = SilentMonks.TOO_MANY;
    private static final int REFUSED = SilentMonks.REFUSED;

    private static final String TWO = "need a 4;elder b a;novice c;";

    public static void main(String[] args) {
        rightTexts();
        beginnings();
        needs();
        monks();
        bells();
        wants();
        tells();
        gives();
        waits();
        strangeBytes();
        longestTexts();
        Kit.end();
    }

    /** In the text a ^ stands where the error is; there is none in it if there is no error. */
    private static void reads(String marked, int answer) {
        int at = marked.indexOf('^');
        String text = at < 0 ? marked : marked.substring(0, at) + marked.substring(at + 1);
        SilentMonks x = new SilentMonks();
        Kit.due("load of " + text, Kit.load(x, text), answer);
        Kit.due("error position of " + text, x.errorPosition(), at < 0 ? SilentMonks.NONE : at);
        Kit.due("changes behind " + text, x.count(12), answer > 0 ? 1 : 0);
        if (answer < 0) {
            Kit.due("all behind " + text, Kit.everything(x), Kit.everything(new SilentMonks()));
        }
    }

    private static void rightTexts() {
        reads("need a 1;elder b;", 1);
        reads("need a1;elder b;", 1);
        reads("  need  a  1  ;  elder  b  a  ;  ", 1);
        reads("paper000099;grant00050;need a 00020;novice b;bell 0023speech;bell 00 silence;wait 00099;", 1);
        reads("paper 0;grant 0;need a 1;brother b;brother c;tell b c a voice;", 2);
        reads("grant 3;need a 1;brother b;", 1);
        reads("need need 1;need bell 2;elder elder need bell;novice novice;want elder bell;"
            + "tell elder novice need slip;give elder novice 3;wait 1;", 2);
        reads("need paper 1;elder paper paper;novice grant;want grant paper;tell paper grant paper voice;", 2);
        reads("need a 1;elder a a;", 1);
        reads(needs(8) + monks(12), 12);
    }

    private static String needs(int count) {
        StringBuilder text = new StringBuilder();
        for (int i = 0; i < count; i++) {
            text.append("need ").append((char) ('a' + i)).append(" 1;");
        }
        return text.toString();
    }

    private static String monks(int count) {
        StringBuilder text = new StringBuilder();
        for (int i = 0; i < count; i++) {
            text.append(i % 2 == 0 ? "novice " : "elder ").append((char) ('a' + i)).append(';');
        }
        return text.toString();
    }

    private static void beginnings() {
        reads("^", SYNTAX);
        reads("    ^", SYNTAX);
        reads("paper^", SYNTAX);
        reads("paper ^;need a 1;elder b;", SYNTAX);
        reads("paper ^a;need a 1;elder b;", SYNTAX);
        reads("paper 5 ^need a 1;elder b;", SYNTAX);
        reads("paper 5;^", SYNTAX);
        reads("paper ^100;need a 1;elder b;", VALUE);
        reads("paper ^00000000000100", VALUE);
        reads("paper ^99999999999999999999999999999999999999999;", VALUE);
        reads("paper ^4294967296;", VALUE);
        reads("paper ^-1;", SYNTAX);
        reads("paper 5;^paper 5;need a 1;elder b;", SYNTAX);
        reads("grant ^51;need a 1;elder b;", VALUE);
        reads("grant 5;^paper 5;need a 1;elder b;", SYNTAX);
        reads("grant 5;^grant 5;need a 1;elder b;", SYNTAX);
        reads("^papers 5;need a 1;elder b;", SYNTAX);
        reads("^Paper 5;need a 1;elder b;", SYNTAX);
        reads("^elder b;", SYNTAX);
        reads("^;need a 1;elder b;", SYNTAX);
    }

    private static void needs() {
        reads("^needa 1;elder b;", SYNTAX);
        reads("need ^1;elder b;", SYNTAX);
        reads("need ^;elder b;", SYNTAX);
        reads("need ^brother b;", SYNTAX);
        reads("need^", SYNTAX);
        reads("need  ^", SYNTAX);
        reads("need a^", SYNTAX);
        reads("need a ^;", SYNTAX);
        reads("need a ^b;", SYNTAX);
        reads("need abcdef 1^", SYNTAX);
        reads("need abcdef 1  ^", SYNTAX);
        reads("need ^abcdefg 1;elder b;", SYNTAX);
        reads("need a 1 ^1;elder b;", SYNTAX);
        reads("need a 1^b;elder b;", SYNTAX);
        reads("need a ^0;elder b;", VALUE);
        reads("need a ^21;elder b;", VALUE);
        reads("need a 1;need ^a 1;elder b;", TWICE);
        reads("need a 1;need ^a 0", TWICE);
        reads("need a 1;need ^aaaaaaa 1;elder b;", SYNTAX);
        reads("need a 1;need aa 1;elder b;", 1);
        reads("need a 1;^paper 5;elder b;", SYNTAX);
        reads("need a 1;^", SYNTAX);
        reads("need a 1;^bell 3 speech;", SYNTAX);
        reads("need a 1;^wait 1;", SYNTAX);
        reads(needs(8) + "^need", MANY);
        reads(needs(8) + "  ^need a 0;", MANY);
        reads(needs(8) + "^needs a 1;", SYNTAX);
        reads(needs(8) + "^", SYNTAX);
    }

    private static void monks() {
        reads("need a 1;elder^", SYNTAX);
        reads("need a 1;elder ^;", SYNTAX);
        reads("need a 1;elder ^1;", SYNTAX);
        reads("need a 1;elder b^", SYNTAX);
        reads("need a 1;elder b ^1;", SYNTAX);
        reads("need a 1;elder b a^", SYNTAX);
        reads("need a 1;elder ^brother;", SYNTAX);
        reads("need a 1;elder ^brother b;", SYNTAX);
        reads("need a 1;elder brothe;", 1);
        reads("need a 1;^elders b;", SYNTAX);
        reads("need a 1;^elderb;", SYNTAX);
        reads("need a 1;elder b ^c;", UNKNOWN);
        reads("need a 1;elder b ^b;", UNKNOWN);
        reads("need a 1;elder b ^abcdefg;", SYNTAX);
        reads("need a 1;elder b a ^a;", TWICE);
        reads("need a 1;need c 1;elder b c a ^c;", TWICE);
        reads(needs(8) + "elder b a b c d e f g h ^a;", TWICE);
        reads(needs(8) + "elder b a b c d e f g h ^i;", UNKNOWN);
        reads(needs(8) + "elder b h g f e d c b a;", 1);
        reads("need a 1;elder b;novice ^b;", TWICE);
        reads("need a 1;elder b;novice ^b c", TWICE);
        reads("need a 1;elder b;novice a;", 2);
        reads("need a 1;elder b;^need c 1;", SYNTAX);
        reads("need a 1;elder b;^monk c;", SYNTAX);
        reads("need a 1;elder b;^5", SYNTAX);
        reads("need a 1;elder b;^;", SYNTAX);
        reads("need a 1;" + monks(12) + "^novice", MANY);
        reads("need a 1;" + monks(12) + "^brother a z;", MANY);
        reads("need a 1;" + monks(12) + "^elder", MANY);
        reads("need a 1;" + monks(12) + "^elde", SYNTAX);
        reads("need a 1;" + monks(12) + "bell 1 speech;^elder z;", SYNTAX);
    }

    private static void bells() {
        reads(TWO + "bell^", SYNTAX);
        reads(TWO + "bell ^speech;", SYNTAX);
        reads(TWO + "bell ^24 speech;", VALUE);
        reads(TWO + "bell ^024", VALUE);
        reads(TWO + "bell 23^", SYNTAX);
        reads(TWO + "bell 23 ^;", SYNTAX);
        reads(TWO + "bell 23 ^sign;", SYNTAX);
        reads(TWO + "bell 23 ^speeches;", SYNTAX);
        reads(TWO + "bell 23 speech^", SYNTAX);
        reads(TWO + "bell 23 speech ^speech;", SYNTAX);
        reads(TWO + "bell 1 speech;bell 1 silence;", 2);
        reads(TWO + "bell 1 speech;^novice d;", SYNTAX);
        reads(TWO + "wait 1;^bell 1 speech;", SYNTAX);
    }

    private static void wants() {
        reads(TWO + "want^", SYNTAX);
        reads(TWO + "want ^1", SYNTAX);
        reads(TWO + "want ^d a;", UNKNOWN);
        reads(TWO + "want ^a a;", UNKNOWN);
        reads(TWO + "want ^bbbbbbb a;", SYNTAX);
        reads(TWO + "want b^", SYNTAX);
        reads(TWO + "want b ^;", SYNTAX);
        reads(TWO + "want b ^b;", UNKNOWN);
        reads(TWO + "want b a^", SYNTAX);
        reads(TWO + "want b a ^a;", SYNTAX);
        reads(TWO + "want b a;want c a;want b a^;", REFUSED);
        reads(TWO + "want b a;want b a^", SYNTAX);
        reads(TWO + "want b a;want b a ^wait 1;", SYNTAX);
        reads(TWO + "want b a;want b a  ^;wait 0;", REFUSED);
        reads(TWO + "want b a;tell b c a slip;want b a^;", REFUSED);
        reads(TWO + "want c a;tell c b a slip;want c a;", 2);
        reads(TWO + "^wants b a;", SYNTAX);
    }

    private static void tells() {
        reads(TWO + "tell^", SYNTAX);
        reads(TWO + "tell ^x c a sign;", UNKNOWN);
        reads(TWO + "tell b ^x a sign;", UNKNOWN);
        reads(TWO + "tell b ^b a sign;", TWICE);
        reads(TWO + "tell b ^b", TWICE);
        reads(TWO + "tell b ^1 a sign;", SYNTAX);
        reads(TWO + "tell b c ^b sign;", UNKNOWN);
        reads(TWO + "tell b c ^sign;", UNKNOWN);
        reads(TWO + "tell b c ^;", SYNTAX);
        reads(TWO + "tell b c a^", SYNTAX);
        reads(TWO + "tell b c a ^;", SYNTAX);
        reads(TWO + "tell b c a ^speech;", SYNTAX);
        reads(TWO + "tell b c a ^signs;", SYNTAX);
        reads(TWO + "tell b c a sign^", SYNTAX);
        reads(TWO + "tell b c a sign ^slip;", SYNTAX);
        reads(TWO + "tell b c a sign^;", REFUSED);
        reads(TWO + "tell c b a sign ^;", REFUSED);
        reads(TWO + "tell b c a slip;tell b c a sign;", 2);
        reads("paper 0;" + TWO + "tell b c a slip^;", REFUSED);
        reads("paper 1;" + TWO + "tell c b a slip^;", REFUSED);
        reads("paper 2;" + TWO + "tell c b a slip;tell b c a slip^;", REFUSED);
        String bread = "need a 20;elder b;novice c;" + "tell b c a voice;".repeat(12);
        reads(bread, 2);
        reads(bread + "tell b c a voice^;", REFUSED);
        reads(bread + "wait 99;tell b c a voice^;", REFUSED);
        reads(bread + "wait 99;wait 99;tell b c a voice;", 2);
    }

    private static void gives() {
        reads(TWO + "give^", SYNTAX);
        reads(TWO + "give ^x c 1;", UNKNOWN);
        reads(TWO + "give b ^x 1;", UNKNOWN);
        reads(TWO + "give b ^b 0;", TWICE);
        reads(TWO + "give b c^", SYNTAX);
        reads(TWO + "give b c ^a;", SYNTAX);
        reads(TWO + "give b c ^0;", VALUE);
        reads(TWO + "give b c ^51;", VALUE);
        reads(TWO + "give c b ^51;", VALUE);
        reads(TWO + "give b c 5^", SYNTAX);
        reads(TWO + "give b c 5 ^5;", SYNTAX);
        reads(TWO + "give c b 5^;", REFUSED);
        reads(TWO + "give b c 10;", 2);
        reads(TWO + "give b c 11^;", REFUSED);
        reads("grant 50;" + TWO + "give b c 50;wait 23;give b c 1^;", REFUSED);
        reads("grant 50;" + TWO + "give b c 50;wait 24;give b c 50;", 2);
        reads("grant 50;" + TWO + "elder d;give b c 50;give d c 50^;", REFUSED);
        reads(TWO + "tell b c a voice;give b c 1^;", REFUSED);
        reads(TWO + "tell c b a voice;give b c 1^;", REFUSED);
        reads("grant 50;" + TWO + "tell c b a voice;wait 24;wait 24;give b c 50;", 2);
    }

    private static void waits() {
        reads(TWO + "wait^", SYNTAX);
        reads(TWO + "wait ^b;", SYNTAX);
        reads(TWO + "wait ^0;", VALUE);
        reads(TWO + "wait ^100;", VALUE);
        reads(TWO + "wait 99^", SYNTAX);
        reads(TWO + "wait 99 ^99;", SYNTAX);
        reads(TWO + "wait 99;^wai", SYNTAX);
        String late = "need a 1;elder b;" + "wait99;".repeat(101);
        reads(late, 1);
        reads(late + "wait1^;", REFUSED);
        reads(late + "wait1^", SYNTAX);
    }

    private static void strangeBytes() {
        for (int value = 1; value <= 255; value++) {
            char sign = (char) value;
            if (sign != ' ' && sign != '^') {
                reads("need a 1;^" + sign + "elder b;", SYNTAX);
                reads(TWO + " ^" + sign, SYNTAX);
            }
            if (sign != ' ' && sign != '^' && sign != ';' && (sign < '0' || sign > '9')) {
                reads("need a 1^" + sign + "elder b;", SYNTAX);
            }
        }
    }

    /** Texts of 800 bytes: the end of the text is the end of the buffer, too. */
    private static void longestTexts() {
        reads(padded("need a 1;elder b;", 800), 1);
        reads(padded("need a 1;elder b", 800) + "^", SYNTAX);
        reads(padded(TWO, 795) + "^need1", SYNTAX);
        reads(padded(TWO, 796) + "wait^", SYNTAX);
        reads(padded(TWO, 798) + "^1;", SYNTAX);
        reads(padded(TWO, 794) + "wait 1^", SYNTAX);
        reads(padded(TWO, 793) + "wait 1;", 2);
        reads(padded(TWO, 799) + "^?", SYNTAX);
        reads(padded(TWO, 789) + "want b ^abc", UNKNOWN);
        SilentMonks x = new SilentMonks();
        Kit.load(x, padded(TWO, 793) + "wait 1;");
        Kit.due("a shorter text behind a longer one", Kit.load(x, padded(TWO, 700) + "wait"), SYNTAX);
        Kit.due("its error position", x.errorPosition(), 704);
    }

    private static String padded(String text, int length) {
        return text + " ".repeat(length - text.length());
    }
}
