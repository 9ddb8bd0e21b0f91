/** Terms I: texts with the first fault of each, and where it is. */
public final class FaultTest {
    private static final String HEAD = "tongue year 5;thing s;thing m;";
    private static final Check CHECK = new Check("FaultTest");

    private FaultTest() {
    }

    public static void main(String[] args) {
        form();
        tokens();
        untold();
        twice();
        bounds();
        many();
        lacks();
        fine();
        CHECK.end();
    }

    private static void bad(String text, int fault, int place) {
        GapLetter x = new GapLetter();
        CHECK.refused(x, text, Check.tell(x, text), 4);
        CHECK.same("fault of " + text, x.fault(), fault);
        CHECK.same("where of " + text, x.where(), place);
        CHECK.same("tape behind " + text, x.size(11), 0);
        CHECK.same("things behind " + text, x.size(1), 0);
    }

    /** The last token of the text is the one at fault. */
    private static void badLast(String ahead, String token, int fault) {
        bad(HEAD + ahead + token, fault, HEAD.length() + ahead.length());
        bad(HEAD + ahead + "  " + token + " ;;", fault, HEAD.length() + ahead.length() + 2);
    }

    private static void good(String text, int things) {
        GapLetter x = new GapLetter();
        CHECK.granted(x, text, Check.tell(x, text), things);
        CHECK.same("fault of " + text, x.fault(), 0);
        CHECK.same("where of " + text, x.where(), -1);
    }

    private static void form() {
        bad("", 1, 0);
        bad("   ", 1, 3);
        bad("tongue", 1, 6);
        bad("tongue ", 1, 7);
        bad("tongue year", 1, 11);
        bad("tongue day 5", 1, 7);
        bad("tongue year x", 1, 12);
        bad("tongue year 5 thing s", 1, 14);
        bad("tongue year 5;", 1, 14);
        bad("tongue year 5; ", 1, 15);
        bad("tongue year 5;;thing s", 1, 14);
        bad("tongue year 5;thing s;", 1, 22);
        bad("tongue year 5;thing", 1, 19);
        bad("tongue year 5;thing s,", 1, 21);
        bad("year 5", 1, 0);
        bad("5", 1, 0);
        bad(";tongue year 5;thing s", 1, 0);
        badLast("", "means", 1);
        badLast("", "year", 1);
        badLast("", "s", 1);
        badLast("", "7", 1);
        badLast("thing ", "of", 1);
        badLast("thing ", "3", 1);
        badLast("saying ", "old", 1);
        badLast("saying x ", "s", 1);
        badLast("saying x of ", "day", 1);
        badLast("saying x of ", ",", 1);
        badLast("saying x of s ", "m", 1);
        badLast("saying x of s,m,s,m,", "word", 1);
        badLast("word ", "5", 1);
        badLast("word sol ", "s", 1);
        badLast("word sol means ", "coined", 1);
        badLast("coined ", ",", 1);
        badLast("coined sol means ", "5", 1);
        badLast("gone ", "5", 1);
        badLast("gone a ", "5", 1);
        badLast("gone a day ", "x", 1);
        badLast("heard ", "5", 1);
        badLast("shunned ", ",", 1);
        badLast("old ", "5", 1);
        badLast("old so ", "so", 1);
        bad(HEAD + "saying x of s,", 1, HEAD.length() + 14);
        bad(HEAD + "gone a day", 1, HEAD.length() + 10);
    }

    private static void tokens() {
        badLast("", "Thing", 1);
        badLast("thing ", "a.", 1, 1);
        badLast("thing ", "abcdefghi", 1);
        badLast("gone a day ", "0001", 1);
        bad("tongue year 0005", 1, 12);
        bad("tongue year 5\n;thing s", 1, 13);
        bad("tongue\tyear 5;thing s", 1, 6);
        bad("tongue year 5;thing s;" + (char) 225, 1, 22);
        bad((char) 0 + "tongue year 5", 1, 0);
        bad("tongueyear 5;thing s", 1, 0);
        good("tongue year5;thing s", 1);
        good("  tongue   year 005  ;  thing   s  ", 1);
        good("tongue year 5;thing abcdefgh", 1);
        good("tongue year 5;thing s;saying x of s , s,s ,s", 1);
    }

    /** A fault behind some signs of the last token's run. */
    private static void badLast(String ahead, String token, int fault, int behind) {
        bad(HEAD + ahead + token, fault, HEAD.length() + ahead.length() + behind);
    }

    private static void untold() {
        badLast("saying x of ", "z", 2);
        badLast("saying x of ", "x", 2);
        badLast("saying x of s,", "z", 2);
        badLast("saying x of s,m,s,m,", "z", 2);
        badLast("saying x of s;saying y of ", "x", 2);
        badLast("word sol means ", "z", 2);
        badLast("saying x of s;word sol means ", "x", 2);
        badLast("coined sol means ", "z", 2);
        badLast("saying x of s;coined sol means ", "x", 2);
        bad("tongue year 5;word a means s;thing s", 2, 27);
    }

    private static void twice() {
        badLast("thing ", "s", 3);
        badLast("saying ", "m", 3);
        badLast("saying x of s;saying ", "x", 3);
        badLast("saying x of s;thing ", "x", 3);
        badLast("word sol means s;word ", "sol", 3);
        badLast("word sol means s;coined ", "sol", 3);
        badLast("coined sol means s;word ", "sol", 3);
        badLast("coined sol means s;coined ", "sol", 3);
        badLast("gone a day 1;gone ", "a", 3);
        badLast("", "tongue", 3);
        bad("tongue year 5;tongue year 5", 3, 14);
    }

    private static void bounds() {
        bad("tongue year 0", 4, 12);
        bad("tongue year 000;thing s", 4, 12);
        bad("tongue year 100;thing s", 4, 12);
        badLast("gone a day ", "100", 4);
        badLast("gone a day ", "999", 4);
        badLast("gone ", "ab", 4);
        badLast("gone ", "day", 4);
        badLast("gone a day 1;gone ", "aa", 4);
    }

    private static void many() {
        String things = "tongue year 5;thing a;thing b;thing c;thing d;thing e;thing f";
        good(things, 6);
        bad(things + ";thing", 5, things.length() + 1);
        bad(things + ";  thing a", 5, things.length() + 3);
        many("saying ", " of s", 5);
        many("word ", " means s", 8);
        many("coined ", " means m", 4);
        many("gone ", " day 1", 6);
        many("heard ", "", 6);
        many("shunned ", "", 6);
        many("old ", "", 5);
        String both = HEAD + "heard a;heard a;heard a;shunned a;shunned a;shunned a";
        good(both, 2);
        bad(both + ";heard a", 5, both.length() + 1);
        bad(both + ";shunned a", 5, both.length() + 1);
        badLast("saying x of s,m,s,m,", "s", 5);
    }

    private static void many(String ahead, String behind, int room) {
        StringBuilder text = new StringBuilder(HEAD.substring(0, HEAD.length() - 1));
        for (int i = 0; i < room; i++) {
            text.append(';').append(ahead).append((char) ('a' + i)).append(behind);
        }
        good(text.toString(), 2);
        bad(text + ";" + ahead + "z" + behind, 5, text.length() + 1);
    }

    private static void lacks() {
        bad("thing a", 6, 0);
        bad("  old 5", 6, 2);
        bad("heard", 6, 0);
        bad("tongue year 5", 6, 13);
        bad("tongue year 5  ", 6, 15);
        bad("tongue year 99;gone a day 99;old a;heard b", 6, 42);
    }

    private static void fine() {
        good("tongue year 1;thing year", 1);
        good("tongue year 99;thing s;word tongue means s;word means means s;coined of means s", 1);
        good("tongue year 9;heard thing;shunned of;old day;gone a day 0;gone b day 99;thing s", 1);
        good("tongue year 9;thing sol;word sol means sol;saying so of sol,sol,sol,sol", 1);
    }
}
