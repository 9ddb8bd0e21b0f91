import java.io.IOException;
import java.util.function.Supplier;

/** Terms I and promises 1 to 5 at their boundaries: the tape, its tokens, lines and faults. */
public final class TextBoundaryTest extends Boundary {
    private static final String HEAD = "tongue year 5;thing s;thing m";
    private static final String[] RESERVED = {"tongue", "thing", "saying", "word", "coined", "gone", "heard", "shunned",
        "old", "of", "means", "day"};
    /** Every sort of line, token by token. */
    private static final String[] TOKENS = ("tongue year 5 ; thing s ; saying k of s , s , s ; word w means s ; "
            + "coined c means s ; gone a day 1 ; heard h ; shunned u ; old o").split(" ");

    private TextBoundaryTest() {
    }

    public static void main(String[] args) throws IOException {
        begin("TextBoundaryTest");
        tape();
        blanks();
        tokens();
        lines();
        tongueLine();
        thingLine();
        sayingLine();
        wordLine();
        goneLine();
        hearingLine();
        oldLine();
        names();
        orderOfFaults();
        formFault();
        untoldFault();
        twiceFault();
        boundsFault();
        manyFault();
        lacksFault();
        newObject();
        feed();
        tongueOfSoMany();
        tongueAnew();
        tongueAfterTongue();
        tongueRefused();
        fault();
        where();
        end(1, 5);
    }

    private static void bad(String text, int fault, int place) {
        GapLetter x = new GapLetter();
        due(text, Check.tell(x, text), -1);
        due("trouble of " + text, x.trouble(), 4);
        due("fault of " + text, x.fault(), fault);
        due("where of " + text, x.where(), place);
    }

    private static void good(String text, int things) {
        GapLetter x = new GapLetter();
        due(text, Check.tell(x, text), things);
        due("trouble of " + text, x.trouble(), 0);
        due("fault of " + text, x.fault(), 0);
        due("where of " + text, x.where(), -1);
    }

    /** A line behind the head whose last token is at fault, with blanks and without. */
    private static void badLast(String ahead, String token, int fault) {
        bad(HEAD + ";" + ahead + token, fault, HEAD.length() + 1 + ahead.length());
        bad(HEAD + ";" + ahead + "   " + token + "   ", fault, HEAD.length() + 4 + ahead.length());
    }

    private static String blanks(int count) {
        return " ".repeat(count);
    }

    private static String several(String ahead, String behind, int count) {
        StringBuilder text = new StringBuilder(HEAD);
        for (int i = 0; i < count; i++) {
            text.append(';').append(ahead).append((char) ('a' + i)).append(behind);
        }
        return text.toString();
    }

    /** So many lines of a sort are fine, and one more is a fault at its first word. */
    private static void room(String ahead, String behind, int room, int what) {
        String most = several(ahead, behind, room);
        good(most, 2);
        due("so many of " + ahead, Check.told(most).size(what), room);
        bad(most + ";" + ahead + "z" + behind, 5, most.length() + 1);
    }

    private static void tape() {
        sentence("Terms I", "THE TAPE has 1,000 bytes");
        String start = "tongue year 5;";
        String last = "thing abcdefgh";
        good(start + blanks(1000 - start.length() - last.length()) + last, 1);
        String whole = HEAD + blanks(1000 - HEAD.length() - 1);
        bad(whole + "x", 1, 999);
        bad(whole + "#", 1, 999);
        bad(whole + ";", 1, 1000);
        good(whole + " ", 2);
        bad(blanks(1000), 1, 1000);
    }

    private static void blanks() {
        sentence("Terms I", "blanks, 32, part TOKENS and mean nothing else");
        good("  tongue   year   5   ;   thing   s   ", 1);
        good(HEAD + ";saying  k  of  s  ,  m  ;  word  a  means  s ; gone  a  day  1 ; heard  a ; old  a  ", 2);
        good(HEAD + ";saying k of s,m;word a means s;gone a day 1;heard a;old a", 2);
        bad("tongue year 5;th ing s", 1, 14);
        bad("tongue year 1 2;thing s", 1, 14);
        bad("tongueyear 5;thing s", 1, 0);
        for (int sign : new int[] {0, 1, 9, 10, 13, 31, 33, 127, 128, 160, 255}) {
            bad("tongue year 5;thing s" + (char) sign + ";thing m", 1, 21);
            bad("tongue year 5;thing" + (char) sign + "s", 1, 19);
        }
    }

    private static void tokens() {
        sentence("Terms I", "WORDS of 1 to 8 small letters that stand together");
        good("tongue year 5;thing a;thing z", 2);
        good("tongue year 5;thing abcdefgh;thing stuvwxyz", 2);
        bad("tongue year 5;thing abcdefghi", 1, 20);
        bad("tongue year 5;thing " + "a".repeat(900), 1, 20);
        badLast("word ", "abcdefghi", 1);
        badLast("coined ", "abcdefghi", 1);
        badLast("heard ", "abcdefghi", 1);
        badLast("shunned ", "abcdefghi", 1);
        badLast("old ", "abcdefghi", 1);
        badLast("gone ", "abcdefghi", 1);
        due("eight letters", Check.told(BARE + ";word abcdefgh means a").word(0, 0), 8);
        for (char sign : new char[] {'`', '{', 'A', 'Z', '@', '[', '_', '-', '.', ':', '/'}) {
            badLast("thing ", String.valueOf(sign), 1);
        }
        sentence("Terms I", "WHOLES of 1 to 3 digits that do");
        good("tongue year 5;thing s", 1);
        good("tongue year 05;thing s", 1);
        good("tongue year 005;thing s", 1);
        bad("tongue year 0005;thing s", 1, 12);
        bad("tongue year 4294967301;thing s", 1, 12);
        bad("tongue year " + "0".repeat(900) + "5;thing s", 1, 12);
        badLast("gone a day ", "0000", 1);
        for (char sign : new char[] {'/', ':', '-', '+'}) {
            bad("tongue year " + sign + "5;thing s", 1, 12);
        }
        sentence("Terms I", "single ones of ;");
        bad("tongue year 5;;thing s", 1, 14);
        bad("tongue year 5; ;thing s", 1, 15);
        sentence("Terms I", "TOKENS are single commas, too.");
        good(HEAD + ";saying k of s,m", 2);
        bad(HEAD + ";saying k of s,,m", 1, HEAD.length() + 15);
        bad(HEAD + ",thing t", 1, HEAD.length());
    }

    private static void lines() {
        sentence("Terms I", "LINE {; LINE}");
        bad("", 1, 0);
        bad(";" + HEAD, 1, 0);
        bad(HEAD + ";", 1, HEAD.length() + 1);
        bad(HEAD + "; ", 1, HEAD.length() + 2);
        bad(HEAD + " thing t", 1, HEAD.length() + 1);
        good("tongue year 5;thing s", 1);
        good(FULL, 6);
    }

    private static void tongueLine() {
        sentence("Terms I", "tongue year WHOLE (1 .. 99 days), ahead of all others");
        bad("tongue year 0;thing s", 4, 12);
        bad("tongue year 000;thing s", 4, 12);
        good("tongue year 1;thing s", 1);
        due("1 day", Check.told("tongue year 1;thing s").size(0), 1);
        good("tongue year 99;thing s", 1);
        due("99 days", Check.told("tongue year 099;thing s").size(0), 99);
        bad("tongue year 100;thing s", 4, 12);
        bad("tongue year 999;thing s", 4, 12);
        bad("thing s;tongue year 5", 6, 0);
    }

    private static void thingLine() {
        sentence("Terms I", "thing NAME (up to 6)");
        String most = "tongue year 5;thing a;thing b;thing c;thing d;thing e;thing f";
        good("tongue year 5;thing a", 1);
        good(most, 6);
        due("six things", Check.told(most).size(1), 6);
        bad(most + ";thing g", 5, most.length() + 1);
        bad(most + ";thing", 5, most.length() + 1);
        bad(most + ";thing a", 5, most.length() + 1);
    }

    private static void sayingLine() {
        sentence("Terms I", "saying NAME of NAME {, NAME} (things; 1 to 4, like ones too; up to 5)");
        bad(HEAD + ";saying k of", 1, HEAD.length() + 12);
        bad(HEAD + ";saying k of;thing t", 1, HEAD.length() + 12);
        good(HEAD + ";saying k of s", 2);
        good(HEAD + ";saying k of s,m,s,m", 2);
        good(HEAD + ";saying k of s,s,s,s", 2);
        badLast("saying k of s,m,s,m,", "s", 5);
        badLast("saying k of s,s,s,s,", "s", 5);
        badLast("saying j of s;saying k of ", "j", 2);
        room("saying ", " of s", 5, 2);
        GapLetter x = Check.told(HEAD + ";word ab means s;saying k of s;saying j of s,s,s,s");
        due("of one", x.saying(0), 2);
        due("of four alike", x.saying(1), 2 + 2 + 2 + 2 + 3);
    }

    private static void wordLine() {
        sentence("Terms I", "(a WORD, each once of both; a thing; up to 8 of the first, 4 of the other)");
        room("word ", " means s", 8, 3);
        room("coined ", " means s", 4, 4);
        good(several("word ", " means s", 8) + several("coined x", " means m", 4).substring(HEAD.length()), 2);
        bad(several("word ", " means s", 8) + several("coined x", " means m", 4).substring(HEAD.length())
                + ";word z means s", 5, several("word ", " means s", 8).length() + 4 * 18 + 1);
        badLast("word so means s;word ", "so", 3);
        badLast("word so means s;coined ", "so", 3);
        badLast("coined so means s;word ", "so", 3);
        badLast("coined so means s;coined ", "so", 3);
        good(HEAD + ";word so means s;coined os means s;heard so;shunned so;old so;old so", 2);
        badLast("saying k of s;word so means ", "k", 2);
        badLast("saying k of s;coined so means ", "k", 2);
        good(HEAD + ";word a means s;word abcdefgh means s;coined z means m;coined hgfedcba means m", 2);
        good(HEAD + ";word word means s;word means means s;coined coined means m;coined year means m", 2);
    }

    private static void goneLine() {
        sentence("Terms I", "gone LETTER day WHOLE (a WORD of one letter, each once; 0 .. 99; up to 6)");
        good(HEAD + ";gone a day 0;gone z day 99", 2);
        badLast("gone a day ", "100", 4);
        badLast("gone a day ", "999", 4);
        badLast("gone ", "ab", 4);
        badLast("gone ", "abcdefgh", 4);
        badLast("gone a day 0;gone ", "a", 3);
        badLast("gone a day 0;gone b day 0;gone z day 0;gone ", "z", 3);
        room("gone ", " day 99", 6, 5);
    }

    private static void hearingLine() {
        sentence("Terms I", "heard SPELT, or shunned SPELT (any WORD; up to 6 of both)");
        room("heard ", "", 6, 6);
        room("shunned ", "", 6, 6);
        String both = HEAD + ";heard a;heard a;heard a;shunned a;shunned a;shunned a";
        good(both, 2);
        bad(both + ";heard a", 5, both.length() + 1);
        bad(both + ";shunned a", 5, both.length() + 1);
        String five = HEAD + ";heard a;heard a;heard a;heard a;heard a";
        good(five + ";shunned a", 2);
        bad(five + ";shunned a;shunned a", 5, five.length() + 11);
        for (String word : RESERVED) {
            good(HEAD + ";heard " + word + ";shunned " + word, 2);
        }
        good(HEAD + ";heard abcdefgh;shunned s", 2);
    }

    private static void oldLine() {
        sentence("Terms I", "old SPELT (any WORD; up to 5)");
        room("old ", "", 5, 7);
        String most = HEAD + ";old a;old a;old a;old a;old a";
        good(most, 2);
        bad(most + ";old a", 5, most.length() + 1);
        for (String word : RESERVED) {
            good(HEAD + ";old " + word, 2);
        }
    }

    private static void names() {
        sentence("Terms I", "NAMES are WORDS but tongue, thing, saying, word, coined, gone, heard, shunned, old, of, means, day;");
        for (String word : RESERVED) {
            badLast("thing ", word, 1);
            badLast("saying ", word, 1);
            badLast("saying k of ", word, 1);
            badLast("saying k of s,m,s,m,", word, 1);
            badLast("word a means ", word, 1);
            badLast("coined a means ", word, 1);
            good("tongue year 5;thing " + word + "s;word a means " + word + "s", 1);
        }
        good("tongue year 5;thing year;saying years of year;word year means year", 1);
        sentence("Terms I", "each told once, ahead of its use.");
        bad("tongue year 5;word a means s;thing s", 2, 27);
        bad("tongue year 5;coined a means s;thing s", 2, 29);
        bad("tongue year 5;saying k of s;thing s", 2, 26);
        good("tongue year 5;thing s;saying k of s;word a means s;coined b means s", 1);
        badLast("thing ", "m", 3);
    }

    private static void orderOfFaults() {
        sentence("Terms I", "FAULTS, the first that is met from the left, of one place the least number:");
        bad("", 1, 0);
        bad("tongue year 5;", 1, 14);
        badLast("saying k of s,m,s,m,", "t", 2);
        badLast("saying k of s,m,s,m,", "k", 2);
        badLast("saying k of s,m,s,m,", "7", 1);
        bad("tongue year 1000", 1, 12);
        bad("thing #", 6, 0);
        bad("# thing s", 1, 0);
        bad("tongue year 0;thing #", 4, 12);
        bad("tongue year 5;thing s;thing s;#", 3, 28);
        bad("tongue year 5;thing s;word a means t;word a means s", 2, 35);
        bad("tongue year 5;thing s;gone ab day 100", 4, 27);
        bad("tongue year 5;thing s;gone a day 100;gone a day 0", 4, 33);
        bad("tongue year 5;thing s;word a means s;word a means t", 3, 42);
        bad("tongue year 5;old a;old b;old c;old d;old e;old 5", 5, 44);
        bad("tongue year 5;old a;old b;old c;old d;old 5;old e", 1, 42);
    }

    private static boolean mayEndBehind(int i) {
        return i + 1 == TOKENS.length || TOKENS[i + 1].equals(";") || TOKENS[i + 1].equals(",");
    }

    private static String joined(int count) {
        StringBuilder text = new StringBuilder();
        for (int i = 0; i < count; i++) {
            text.append(i > 0 ? " " : "").append(TOKENS[i]);
        }
        return text.toString();
    }

    private static boolean isFree(String token) {
        return token.length() == 1 && token.charAt(0) >= 'a';
    }

    private static void formFault() {
        sentence("Terms I", "1 FORM: the first byte that begins no TOKEN, or TOKEN with which no TONGUE goes on (the end: its place).");
        for (int i = 0; i < TOKENS.length; i++) {
            String upTo = joined(i + 1);
            if (i == 2) {
                bad(upTo, 6, upTo.length());
            } else if (mayEndBehind(i)) {
                good(upTo, 1);
            } else {
                bad(upTo, 1, upTo.length());
                bad(upTo + "  ", 1, upTo.length() + 2);
            }
            String ahead = i == 0 ? "" : joined(i) + " ";
            bad(ahead + "#", 1, ahead.length());
            bad(ahead + (char) 225, 1, ahead.length());
            if (!TOKENS[i].equals("5") && !TOKENS[i].equals("1")) {
                bad(ahead + "7", 1, ahead.length());
            }
            if (i == 0 || !mayEndBehind(i - 1)) {
                bad(ahead + ";", 1, ahead.length());
                bad(ahead + ";#", 1, ahead.length());
                bad(ahead + "; thing s;old 5", 1, ahead.length());
                bad(ahead + ", thing s;old 5", 1, ahead.length());
            }
            if (!isFree(TOKENS[i])) {
                bad(ahead + "abc", 1, ahead.length());
                bad(ahead + "of of", 1, ahead.length() + (TOKENS[i].equals("of") ? 3 : 0));
            }
        }
    }

    private static void untoldFault() {
        sentence("Terms I", "2 a NAME that isn't told, or is no thing; at it.");
        badLast("saying k of ", "t", 2);
        badLast("saying k of ", "k", 2);
        badLast("saying k of s,", "t", 2);
        badLast("saying k of s,m,s,", "t", 2);
        badLast("saying k of s;saying j of s,", "k", 2);
        badLast("word a means ", "t", 2);
        badLast("word a means ", "a", 2);
        badLast("coined a means ", "t", 2);
        badLast("saying k of s;word a means ", "k", 2);
        badLast("saying k of s;coined a means ", "k", 2);
    }

    private static void twiceFault() {
        sentence("Terms I", "3 a NAME told again; at it;");
        badLast("thing ", "s", 3);
        badLast("thing ", "m", 3);
        badLast("saying ", "s", 3);
        badLast("saying k of s;saying ", "k", 3);
        badLast("saying k of s;thing ", "k", 3);
        badLast("saying j of s;saying k of s;saying ", "k", 3);
        badLast(several("saying ", " of s", 4).substring(HEAD.length() + 1) + ";saying ", "d", 3);
        badLast(several("saying ", " of s", 5).substring(HEAD.length() + 1) + ";thing ", "e", 3);
        badLast("thing t;thing u;thing v;thing ", "v", 3);
        good(HEAD + ";saying ss of s;thing ms", 3);
        sentence("Terms I", "a SPELT told already (word, coined); at it;");
        badLast("word s means s;word ", "s", 3);
        badLast(several("word ", " means s", 7).substring(HEAD.length() + 1) + ";word ", "g", 3);
        badLast(several("coined ", " means s", 3).substring(HEAD.length() + 1) + ";coined ", "c", 3);
        badLast(several("coined ", " means s", 4).substring(HEAD.length() + 1) + ";word ", "d", 3);
        good(HEAD + ";word s means s;word ss means s;coined m means m;coined mm means m", 2);
        sentence("Terms I", "a LETTER that goes already; at it;");
        badLast("gone a day 1;gone ", "a", 3);
        badLast("gone z day 1;gone ", "z", 3);
        badLast(several("gone ", " day 0", 5).substring(HEAD.length() + 1) + ";gone ", "e", 3);
        sentence("Terms I", "a second tongue: at that WORD.");
        badLast("", "tongue", 3);
        bad(HEAD + ";tongue year 5", 3, HEAD.length() + 1);
        bad("tongue year 5;tongue #", 3, 14);
    }

    private static void boundsFault() {
        sentence("Terms I", "4 a WHOLE out of bounds; at it;");
        bad("tongue year 0", 4, 12);
        bad("tongue year 100", 4, 12);
        bad("tongue year   999", 4, 14);
        badLast("gone a day ", "100", 4);
        good(HEAD + ";gone a day 000;gone b day 099", 2);
        sentence("Terms I", "a LETTER of more than one letter; at it.");
        badLast("gone ", "aa", 4);
        badLast("gone ", "day", 4);
        badLast("gone ", "tongue", 4);
        good(HEAD + ";gone a day 1", 2);
    }

    private static void manyFault() {
        sentence("Terms I", "5 MANY: a LINE more of its sort than there is room for, at its first WORD;");
        String most = several("saying ", " of s", 5);
        bad(most + ";  saying", 5, most.length() + 3);
        bad(most + ";saying a of s", 5, most.length() + 1);
        bad(FULL + ";thing g", 5, FULL.length() + 1);
        bad(FULL + ";saying u of a", 5, FULL.length() + 1);
        bad(FULL + ";word w means a", 5, FULL.length() + 1);
        bad(FULL + ";coined w means a", 5, FULL.length() + 1);
        bad(FULL + ";gone e day 1", 5, FULL.length() + 1);
        bad(FULL + ";heard e", 5, FULL.length() + 1);
        bad(FULL + ";shunned e", 5, FULL.length() + 1);
        bad(FULL + ";old e", 5, FULL.length() + 1);
        sentence("Terms I", "a NAME of a saying more than 4: at it.");
        badLast("saying k of s,m,m,s,", "m", 5);
        bad(HEAD + ";saying k of s,m,m,s,m,t", 5, HEAD.length() + 21);
        bad(HEAD + ";saying k of s,m,m,s,", 1, HEAD.length() + 21);
        bad(HEAD + ";saying k of s,m,m,s,;", 1, HEAD.length() + 21);
    }

    private static void lacksFault() {
        sentence("Terms I", "6 LACKS: any LINE ahead of the tongue; at its WORD;");
        for (String word : new String[] {"thing", "saying", "word", "coined", "gone", "heard", "shunned", "old"}) {
            bad(word, 6, 0);
            bad("   " + word + " s;tongue year 5;thing s", 6, 3);
        }
        for (String word : new String[] {"of", "means", "day", "year", "s"}) {
            bad(word, 1, 0);
        }
        sentence("Terms I", "at the end: no thing.");
        bad("tongue year 5", 6, 13);
        bad("tongue year 5   ", 6, 16);
        bad("tongue year 5;gone a day 1;heard a;shunned a;old a", 6, 50);
        good("tongue year 5;gone a day 1;heard a;shunned a;old a;thing a", 1);
        bad("tongue year 5" + blanks(987), 6, 1000);
    }

    private static void newObject() {
        sentence("Promise 1", "No TONGUE.");
        GapLetter x = new GapLetter();
        due("trouble", x.trouble(), 0);
        due("fault", x.fault(), 0);
        due("where", x.where(), -1);
        for (int what = 0; what <= 11; what++) {
            due("size " + what, x.size(what), 0);
        }
        isNoTongue("gone", GapLetter::gone);
        isNoTongue("said", GapLetter::said);
        denies(GapLetter::new, "undo", y -> yes(y.undo()), 6);
        due("led throws", ledThrows(x, 0), true);
    }

    private static void feed() {
        sentence("Promise 2", "Twenty bytes come behind THE TAPE, of each number the highest first");
        GapLetter x = new GapLetter();
        due("feed", x.feed(0x746f6e67, 0x75652079, 0x65617220, 0x373b7468, 0x696e6720), 20);
        due("feed", x.feed(0x6f776c3b, 0x776f7264, 0x20686f6f, 0x74206d65, 0x616e7320), 40);
        due("feed", x.feed(0x6f776c20, 0x20202020, 0x20202020, 0x20202020, 0x20202023), 60);
        due("all but the last byte", x.tongue(59), 1);
        due("hoot", x.word(0, 3), bits("hot"));
        x.feed(0x20202020, 0x20202020, 0x20202020, 0x20202020, 0x202020ff);
        due("the last byte", x.tongue(20), -1);
        due("its place", x.where(), 19);
        x.feed(0x80202020, 0, 0, 0, 0);
        due("the first byte", x.tongue(1), -1);
        due("its place", x.where(), 0);
        sentence("Promise 2", "NONE, and none comes, if there would be more than 1,000.");
        Supplier<GapLetter> filled = () -> {
            GapLetter y = new GapLetter();
            Check.feed(y, HEAD + blanks(960 - HEAD.length()) + ";thing abcdefgh");
            return y;
        };
        GapLetter y = filled.get();
        due("980", y.size(11), 980);
        due("1,000", y.feed(0x3b776f72, 0x64206120, 0x6d65616e, 0x73206d20, 0x20202020), 1000);
        y.undo();
        for (int i = 0; i < 3; i++) {
            due("more", y.feed(-1, -1, -1, -1, -1), -1);
            due("none comes", y.size(11), 1000);
            due("feed tells no trouble", y.trouble(), 6);
        }
        due("what was there stays", y.tongue(1000), 3);
        due("its last line", y.word(0, 1), 1);
        due("behind a tongue there is room", y.feed(0, 0, 0, 0, 0), 20);
    }

    private static Supplier<GapLetter> fed(String text) {
        return () -> {
            GapLetter x = Check.told(FULL);
            x.mark();
            x.lose(letter('k'));
            x.coin(3);
            x.days(2);
            Check.feed(x, text);
            return x;
        };
    }

    private static void tongueOfSoMany() {
        sentence("Promise 3", "The first n bytes of THE TAPE (it is empty then) are the TONGUE from now on");
        GapLetter x = new GapLetter();
        Check.feed(x, "tongue year 12;thing abc;thing d#####");
        due("the first 14", x.tongue(14), -1);
        due("what is behind them is no part", x.fault(), 6);
        due("it is empty", x.size(11), 0);
        Check.feed(x, "tongue year 12;thing abc;thing d#####");
        due("the first 32", x.tongue(32), 2);
        due("it is empty", x.size(11), 0);
        Check.feed(x, "tongue year 12;thing abc;thing d#####");
        due("the first 33", x.tongue(33), -1);
        due("byte 32", x.where(), 32);
        Check.feed(x, "tongue year 12;thing abc;thing d#####");
        due("the first 13", x.tongue(13), -1);
        due("a whole is cut", x.where(), 13);
        Check.feed(x, "tongue year 12;thing abcdefghi");
        due("a word is cut", x.tongue(29), 1);
        Check.feed(x, "tongue year 12;thing abcd;word e means abc");
        due("a name is cut", x.tongue(24), 1);
        Check.feed(x, "tongue year 12;thing abc;word e means abcd");
        due("a name is cut", x.tongue(41), 1);
        due("none of none", x.tongue(0), -1);
        due("the end is there", x.where(), 0);
        due("of 0 bytes", x.fault(), 1);
        Check.feed(x, HEAD);
        due("none of some", x.tongue(0), -1);
        due("the end is there", x.where(), 0);
        due("it is empty", x.size(11), 0);
        Check.feed(x, "tongue year 7;thing b;word cd means b");
        due("all, blanks too", x.tongue(40), 1);
        due("year", x.size(0), 7);
        due("length", x.word(0, 0), 2);
    }

    private static void tongueAnew() {
        sentence("Promise 3", "(day 0: letters that go on it are gone; nothing coined; nothing to undo, no MARKS): how many things.");
        GapLetter x = fed(FULL).get();
        due("acts", x.size(9), 3);
        due("things", x.tongue(FULL.length()), 6);
        due("trouble", x.trouble(), 0);
        due("day 0", x.size(8), 0);
        due("gone", x.gone(), bits("ad"));
        due("nothing coined", x.word(11, 4), 0);
        due("nothing to undo", x.size(9), 0);
        due("no marks", x.size(10), 0);
        stays("the tongue told anew", x, Check.told(FULL));
        GapLetter y = fed(BARE).get();
        due("one thing", y.tongue(BARE.length()), 1);
        due("nothing of the other", y.size(2) + y.size(3) + y.size(4) + y.size(5) + y.size(6) + y.size(7), 0);
        due("no letter of the other", y.gone(), 0);
        due("nothing goes", y.days(99), 0);
        due("no word of the other", y.said(), 0);
        due("all letters stood out", y.stoodOut(), ALL);
        due("it can be any letter", y.which(), ALL);
        stays("one behind another", y, daysOn(Check.told(BARE)));
    }

    private static void tongueAfterTongue() {
        sentence("Promise 3", "are the TONGUE from now on");
        String small = "tongue year 7;thing f;word k means f;coined ij means f;saying p of f;gone y day 1;heard z;old k";
        String other = "tongue year 7;thing u;thing v;word pq means v;word qp means u;word qq means v;word rs means u"
                + ";word st means u;word tu means u;word uv means v;word v means v;heard a;heard b;heard c;heard d;heard e;heard f";
        String[][] runs = {{FULL, FULL, FULL}, {FULL + ";#", BARE}, {FULL, FULL, BARE}, {FULL, FULL, small},
            {FULL + ";#", small}, {small, FULL, small}, {other, FULL + ";thing", other}, {FULL, other, FULL},
            {FULL, BARE, other}, {other, BARE, FULL}};
        for (String[] run : runs) {
            GapLetter x = new GapLetter();
            for (String text : run) {
                Check.tell(x, text);
                x.wins(0);
                x.longestChain();
            }
            String last = run[run.length - 1];
            due("as on a new object: " + last, answersOf(x).equals(answersOf(Check.told(last))), true);
        }
        GapLetter y = Check.told(BARE + ";word aba means a;word bca means a");
        due("aba, no answer", y.wins(0), 1);
        due("bca, aba", y.longestChain(), 2);
        due("another tongue", Check.tell(y, BARE + ";word aba means a;word aca means a"), 1);
        due("aba, aca", y.wins(0), 0);
        due("another tongue", Check.tell(y, BARE + ";word aba means a;word bcb means a"), 1);
        due("one alone", y.longestChain(), 1);
    }

    private static GapLetter daysOn(GapLetter x) {
        x.days(99);
        return x;
    }

    private static void tongueRefused() {
        sentence("Promise 3", "NONE: 2 (THE TAPE stays)");
        for (int n : new int[] {-1, 41, 1000, 1001, Integer.MIN_VALUE, Integer.MAX_VALUE}) {
            refuses(fed(HEAD), "tongue(" + n + ")", x -> x.tongue(n), 2);
            GapLetter x = fed(HEAD).get();
            x.tongue(n);
            due("the tape's bytes stay behind " + n, x.tongue(40), 2);
        }
        refuses(GapLetter::new, "tongue(1) of none", x -> x.tongue(1), 2);
        sentence("Promise 3", "4 (the TONGUE stays).");
        for (String text : new String[] {"", "thing a", "tongue year 9;thing b;thing b", "tongue year 9;gone b day 0;#",
            FULL + ";thing g", "tongue year 9", "tongue year 9;thing b;saying k of b,b,b,b,b"}) {
            GapLetter x = fed(text).get();
            due("a fault", x.tongue(text.length()), -1);
            due("trouble", x.trouble(), 4);
            due("the tape is empty", x.size(11), 0);
            stays("a fault", x, fed("").get());
        }
        GapLetter x = new GapLetter();
        due("a fault", Check.tell(x, "tongue year 9;thing b;"), -1);
        due("no tongue yet", x.size(0) + x.size(1), 0);
        due("no tongue yet", x.gone(), -1);
    }

    private static void fault() {
        sentence("Promise 4", "The FAULT of the latest tongue() not refused by 2; 0 without one.");
        GapLetter x = new GapLetter();
        due("none yet", x.fault(), 0);
        x.tongue(1);
        due("refused by 2", x.fault(), 0);
        String[] texts = {"#", "tongue year 5;word a means s", "tongue year 5;thing s;thing s", "tongue year 0",
            "tongue year 5;old a;old a;old a;old a;old a;old a", "thing s"};
        for (int number = 1; number <= 6; number++) {
            Check.tell(x, texts[number - 1]);
            due("fault " + number, x.fault(), number);
            x.tongue(-1);
            due("refused by 2", x.fault(), number);
            x.gone();
            x.undo();
            due("behind others", x.fault(), number);
        }
        Check.tell(x, BARE);
        due("without one", x.fault(), 0);
        x.tongue(1);
        due("refused by 2", x.fault(), 0);
    }

    private static void where() {
        sentence("Promise 5", "Its place, if the latest call that may be refused was by 4; NONE else.");
        GapLetter x = new GapLetter();
        due("none yet", x.where(), -1);
        x.tongue(0);
        due("the first place", x.where(), 0);
        Check.tell(x, HEAD + ";" + blanks(1000 - HEAD.length() - 1));
        due("the last place", x.where(), 1000);
        x.feed(0, 0, 0, 0, 0);
        x.fault();
        x.size(0);
        x.size(99);
        x.trouble();
        ledThrows(x, 0);
        due("behind calls of which no number is told", x.where(), 1000);
        x.tongue(21);
        due("refused by 2", x.where(), -1);
        due("the fault is that", x.fault(), 1);
        x.tongue(20);
        due("a fault", x.where(), 0);
        x.undo();
        due("refused by 6", x.where(), -1);
        x.tongue(0);
        x.gone();
        due("refused by 1", x.where(), -1);
        Check.tell(x, BARE);
        due("not refused", x.where(), -1);
        x.tongue(0);
        due("a fault", x.where(), 0);
        x.gone();
        due("a call that isn't refused", x.where(), -1);
    }
}
