import java.lang.reflect.Method;
import java.lang.reflect.Modifier;
import java.util.NoSuchElementException;

/** Each promise by answers worked out by hand: ordinary inputs, edges, wrong inputs with their trouble. */
public final class PromiseTest {
    /** Words: 0 tom, 1 puss, 2 rex, 3 spot, 4 hoot; coined: 5 moggy, 6 hound, 7 o. Gone at first: z. */
    private static final String PETS = "tongue year 7; thing cat; thing dog; thing owl;"
            + "saying pets of cat, dog; saying zoo of owl, cat, cat, dog;"
            + "word tom means cat; coined moggy means cat; word puss means cat; word rex means dog;"
            + "coined hound means dog; word spot means dog; word hoot means owl; coined o means owl;"
            + "gone x day 2; gone p day 9; gone z day 7;"
            + "heard rex; shunned tom; shunned hoot; old tm; old ht; old spt";
    private static final String BARE = "tongue year 1;thing a";
    private static final Check CHECK = new Check("PromiseTest");

    private PromiseTest() {
    }

    public static void main(String[] args) throws Exception {
        for (int number = 1; number <= 53; number++) {
            Method test = PromiseTest.class.getDeclaredMethod("promise" + number);
            CHECK.same("promise " + number + " has a test", Modifier.isStatic(test.getModifiers()), true);
            test.invoke(null);
        }
        full();
        twelve();
        CHECK.end();
    }

    private static GapLetter pets() {
        return Check.told(PETS);
    }

    private static int letter(char sign) {
        return sign - 'a';
    }

    private static void same(String what, long got, long due) {
        CHECK.same(what, got, due);
    }

    private static boolean ledThrows(GapLetter x, int i) {
        try {
            x.led(i);
            return false;
        } catch (NoSuchElementException e) {
            return true;
        }
    }

    static void promise1() {
        GapLetter x = new GapLetter();
        same("NONE", GapLetter.NONE, -1);
        same("trouble at first", x.trouble(), 0);
        same("fault at first", x.fault(), 0);
        same("where at first", x.where(), -1);
        for (int what = 0; what <= 11; what++) {
            same("size at first", x.size(what), 0);
        }
        CHECK.refused(x, "gone at first", x.gone(), 1);
    }

    static void promise2() {
        GapLetter x = new GapLetter();
        for (int n = 20; n <= 1000; n += 20) {
            same("feed", x.feed(0x20202020, -1, 0, 1, 2), n);
        }
        same("feed beyond", x.feed(0, 0, 0, 0, 0), -1);
        same("tape stays", x.size(11), 1000);
        CHECK.refused(x, "byte 255", x.tongue(5), 4);
        same("its place", x.where(), 4);
        CHECK.refused(x, "too many", x.tongue(1), 2);
        same("feed keeps trouble", x.feed(0, 0, 0, 0, 0) == 20 ? x.trouble() : -1, 2);
        GapLetter y = new GapLetter();
        y.feed('t' << 24 | 'o' << 16 | 'n' << 8 | 'g', 'u' << 24 | 'e' << 16 | ' ' << 8 | 'y',
                'e' << 24 | 'a' << 16 | 'r' << 8 | '4', ';' << 24 | 't' << 16 | 'h' << 8 | 'i',
                'n' << 24 | 'g' << 16 | ' ' << 8 | 'q');
        CHECK.granted(y, "highest first", y.tongue(20), 1);
    }

    static void promise3() {
        GapLetter x = pets();
        same("tape is empty", x.size(11), 0);
        same("day 0", x.size(8), 0);
        same("gone on day 0", x.gone(), Check.letters("z"));
        Check.feed(x, BARE);
        CHECK.refused(x, "tongue(41)", x.tongue(41), 2);
        CHECK.refused(x, "tongue(-1)", x.tongue(-1), 2);
        same("tape stays", x.size(11), 40);
        CHECK.refused(x, "tongue(20)", x.tongue(20), 4);
        same("tape is empty", x.size(11), 0);
        same("the tongue stays", x.size(1), 3);
        x.lose(0);
        x.coin(0);
        x.days(3);
        x.mark();
        CHECK.refused(x, "a fault", Check.tell(x, "thing a"), 4);
        same("acts stay", x.size(9), 3);
        same("marks stay", x.size(10), 1);
        same("coined stays", x.word(5, 4), 1);
        same("day stays", x.size(8), 3);
        CHECK.granted(x, "anew", Check.tell(x, PETS), 3);
        same("nothing to undo", x.size(9), 0);
        same("no marks", x.size(10), 0);
        same("nothing coined", x.word(5, 4), 0);
        same("day anew", x.size(8), 0);
        same("gone anew", x.gone(), Check.letters("z"));
        CHECK.granted(x, "blanks beyond n", Check.tell(x, BARE), 1);
        Check.feed(x, "tongue year 10;thing abc;word a means abcd");
        CHECK.granted(x, "a word is cut by n", x.tongue(41), 1);
        Check.feed(x, "tongue year 10");
        CHECK.refused(x, "a whole is cut by n", x.tongue(13), 4);
        same("its fault", x.fault(), 6);
        Check.feed(x, "tongue year 199");
        CHECK.refused(x, "a whole is cut by n", x.tongue(14), 4);
        same("its fault", x.fault(), 6);
    }

    static void promise4() {
        GapLetter x = new GapLetter();
        x.tongue(0);
        same("fault", x.fault(), 1);
        x.tongue(1);
        same("fault of the one before", x.fault(), 1);
        Check.tell(x, "old a");
        same("fault", x.fault(), 6);
        x.gone();
        same("fault stays", x.fault(), 6);
        Check.tell(x, BARE);
        same("no fault", x.fault(), 0);
    }

    static void promise5() {
        GapLetter x = new GapLetter();
        Check.tell(x, "  old a");
        same("where", x.where(), 2);
        x.feed(0, 0, 0, 0, 0);
        x.size(3);
        x.fault();
        x.trouble();
        same("led throws", ledThrows(x, 0) ? 1 : 0, 1);
        same("where stays", x.where(), 2);
        x.gone();
        same("where behind another refusal", x.where(), -1);
        Check.tell(x, "");
        x.tongue(0);
        x.tongue(-1);
        same("where behind a number", x.where(), -1);
        same("fault stays", x.fault(), 1);
        Check.tell(x, BARE);
        same("where of a tongue", x.where(), -1);
        Check.tell(x, "tongue year 5;thing");
        same("where", x.where(), 19);
        CHECK.granted(x, "gone", x.gone(), 0);
        same("where behind a call", x.where(), -1);
    }

    static void promise6() {
        GapLetter x = new GapLetter();
        CHECK.refused(x, "gone", x.gone(), 1);
        x = Check.told("tongue year 4;thing a;gone a day 0;gone b day 8;gone c day 9;gone z day 4;gone y day 99");
        CHECK.granted(x, "gone", x.gone(), Check.letters("abz"));
    }

    static void promise7() {
        GapLetter x = pets();
        CHECK.granted(x, "length", x.word(1, 0), 4);
        same("length of coined", x.word(5, 0), 5);
        same("thing", x.word(3, 1), 1);
        same("thing of coined", x.word(7, 1), 2);
        same("said", x.word(0, 2), 1);
        same("not coined", x.word(7, 2), 0);
        same("letters", x.word(1, 3), Check.letters("pus"));
        same("letters of coined", x.word(6, 3), Check.letters("hound"));
        same("may be said", x.word(4, 4), 1);
        same("may not", x.word(5, 4), 0);
        x.coin(2);
        same("coined", x.word(7, 2), 1);
        same("coined", x.word(7, 4), 1);
        x.lose(letter('o'));
        same("letter gone", x.word(7, 2), 0);
        same("may be said yet", x.word(7, 4), 1);
        same("letter gone", x.word(0, 2), 0);
        CHECK.refused(x, "word(-1)", x.word(-1, 0), 1);
        CHECK.refused(x, "word(8)", x.word(8, 0), 1);
        CHECK.refused(x, "what 5", x.word(0, 5), 1);
        CHECK.refused(x, "what -1", x.word(0, -1), 1);
        x = new GapLetter();
        CHECK.refused(x, "no tongue", x.word(0, 0), 1);
    }

    static void promise8() {
        GapLetter x = pets();
        CHECK.granted(x, "shortest", x.thing(0, 0), 0);
        same("length", x.thing(0, 1), 3);
        same("words", x.thing(0, 2), 3);
        same("how many", x.thing(0, 3), 2);
        same("shortest", x.thing(2, 0), 4);
        x.coin(0);
        x.coin(2);
        same("shortest is coined", x.thing(2, 0), 7);
        same("words", x.thing(2, 2), 128 + 16);
        same("words", x.thing(0, 2), 32 + 3);
        x.lose(letter('o'));
        CHECK.granted(x, "none", x.thing(2, 0), -2);
        CHECK.granted(x, "none", x.thing(2, 1), -2);
        same("none", x.thing(2, 2), 0);
        same("none", x.thing(2, 3), 0);
        same("another", x.thing(0, 0), 1);
        CHECK.refused(x, "thing(3)", x.thing(3, 0), 1);
        CHECK.refused(x, "thing(-1)", x.thing(-1, 0), 1);
        CHECK.refused(x, "what 4", x.thing(0, 4), 1);
        CHECK.refused(x, "what -1", x.thing(0, -1), 1);
        x = Check.told("tongue year 1;thing a;coined ab means a;word cd means a;word ef means a;word g means a;gone g day 0");
        x.coin(0);
        same("of like ones the first", x.thing(0, 0), 0);
        same("words", x.thing(0, 2), 1 + 2 + 8);
    }

    static void promise9() {
        GapLetter x = pets();
        CHECK.granted(x, "pets", x.saying(0), 3 + 3 + 1);
        CHECK.granted(x, "zoo", x.saying(1), 4 + 3 + 3 + 3 + 3);
        x.lose(letter('h'));
        CHECK.granted(x, "zoo", x.saying(1), -2);
        same("pets", x.saying(0), 7);
        CHECK.refused(x, "saying(2)", x.saying(2), 1);
        CHECK.refused(x, "saying(-1)", x.saying(-1), 1);
        x = Check.told("tongue year 1;thing a;word abc means a;saying b of a");
        same("one thing", x.saying(0), 3);
    }

    static void promise10() {
        GapLetter x = pets();
        CHECK.granted(x, "none", x.dumbIn(1), -2);
        x.lose(letter('m'));
        x.lose(letter('p'));
        same("the cat", x.dumbIn(0), 0);
        same("behind the owl", x.dumbIn(1), 1);
        x.lose(letter('x'));
        same("still the cat", x.dumbIn(0), 0);
        x.lose(letter('t'));
        same("the owl", x.dumbIn(1), 0);
        CHECK.refused(x, "dumbIn(2)", x.dumbIn(2), 1);
        CHECK.refused(x, "dumbIn(-1)", x.dumbIn(-1), 1);
    }

    static void promise11() {
        GapLetter x = new GapLetter();
        CHECK.refused(x, "no tongue", x.said(), 1);
        x = pets();
        CHECK.granted(x, "said", x.said(), 7);
        x.lose(letter('t'));
        same("said", x.said(), 3);
        x = Check.told(BARE);
        CHECK.granted(x, "said", x.said(), 0);
        x = Check.told(BARE + ";word az means a");
        x.lose(0);
        same("without an a", x.said(), 0);
        x.find(0);
        same("with one", x.said(), 1);
        x.lose(25);
        same("without a z", x.said(), 0);
    }

    static void promise12() {
        GapLetter x = new GapLetter();
        CHECK.refused(x, "no tongue", x.longest(), 1);
        x = pets();
        CHECK.granted(x, "longest", x.longest(), 4);
        x.lose(letter('m'));
        same("of like ones the least", x.longest(), 1);
        x = Check.told("tongue year 1;thing a;thing b;word cc means b;word dd means a");
        same("least number of a word", x.longest(), 0);
        x = Check.told(BARE);
        CHECK.granted(x, "none", x.longest(), -2);
    }

    static void promise13() {
        GapLetter x = new GapLetter();
        CHECK.refused(x, "no tongue", x.users(26), 1);
        x = pets();
        CHECK.granted(x, "o", x.users(letter('o')), 3);
        same("z", x.users(25), 0);
        same("a", x.users(0), 0);
        x.coin(2);
        same("o", x.users(letter('o')), 4);
        x.lose(letter('t'));
        same("o", x.users(letter('o')), 1);
        CHECK.refused(x, "26", x.users(26), 2);
        CHECK.refused(x, "-1", x.users(-1), 2);
    }

    static void promise14() {
        GapLetter x = new GapLetter();
        CHECK.refused(x, "no tongue", x.saidIf(-1), 1);
        x = pets();
        CHECK.granted(x, "o", x.saidIf(letter('o')), 3);
        same("z", x.saidIf(25), 7);
        x.lose(letter('h'));
        same("if found", x.saidIf(letter('h')), 7);
        same("if t too", x.saidIf(letter('t')), 3);
        same("now as it was", x.said(), 3);
        CHECK.refused(x, "26", x.saidIf(26), 2);
        CHECK.refused(x, "-1", x.saidIf(-1), 2);
    }

    static void promise15() {
        GapLetter x = pets();
        CHECK.granted(x, "pets", x.lasts(0), 2);
        x.days(1);
        same("from now on", x.lasts(0), 1);
        x.days(1);
        same("now", x.lasts(0), 0);
        x.find(letter('x'));
        same("anew next year", x.lasts(0), 7);
        CHECK.refused(x, "lasts(2)", x.lasts(2), 1);
        CHECK.refused(x, "lasts(-1)", x.lasts(-1), 1);
        x = Check.told("tongue year 99;thing a;word b means a;saying s of a;gone b day 98");
        same("98 days", x.lasts(0), 98);
        x.days(99);
        same("it went", x.lasts(0), 0);
        x.find(1);
        same("98 more", x.lasts(0), 98);
        x = Check.told("tongue year 99;thing a;word b means a;saying s of a;gone b day 0");
        x.find(1);
        same("99 days", x.lasts(0), 99);
        x = Check.told("tongue year 99;thing a;word b means a;saying s of a;gone c day 0");
        CHECK.granted(x, "none", x.lasts(0), -2);
    }

    static void promise16() {
        GapLetter x = new GapLetter();
        CHECK.refused(x, "no tongue", x.saidOn(100), 1);
        x = pets();
        CHECK.granted(x, "now", x.saidOn(0), 7);
        same("1", x.saidOn(1), 7);
        same("2", x.saidOn(2), 5);
        same("99", x.saidOn(99), 5);
        same("gone as it was", x.gone(), Check.letters("z"));
        same("day as it was", x.size(8), 0);
        CHECK.refused(x, "100", x.saidOn(100), 2);
        CHECK.refused(x, "-1", x.saidOn(-1), 2);
    }

    static void promise17() {
        GapLetter x = new GapLetter();
        CHECK.refused(x, "no tongue", x.longestSaying(), 1);
        x = pets();
        CHECK.granted(x, "zoo", x.longestSaying(), 1);
        x.lose(letter('h'));
        same("pets", x.longestSaying(), 0);
        x.lose(letter('m'));
        x.lose(letter('s'));
        CHECK.granted(x, "none", x.longestSaying(), -2);
        x = Check.told("tongue year 1;thing a;word b means a;saying s of a;saying t of a,a;saying u of a,a");
        same("the first such", x.longestSaying(), 1);
    }

    static void promise18() {
        GapLetter x = pets();
        CHECK.granted(x, "owl", x.lettersOf(2), Check.letters("hot"));
        same("cat", x.lettersOf(0), 0);
        x.coin(2);
        same("owl", x.lettersOf(2), Check.letters("o"));
        x.lose(letter('o'));
        CHECK.granted(x, "can't", x.lettersOf(2), 0);
        same("cat", x.lettersOf(0), Check.letters("pus"));
        CHECK.refused(x, "3", x.lettersOf(3), 1);
        CHECK.refused(x, "-1", x.lettersOf(-1), 1);
    }

    static void promise19() {
        GapLetter x = pets();
        CHECK.granted(x, "spot", x.rhymes(3, 1), 16);
        same("spot", x.rhymes(3, 2), 16);
        same("spot", x.rhymes(3, 3), 0);
        same("spot", x.rhymes(3, 5), 0);
        same("spot", x.rhymes(3, 8), 0);
        same("tom", x.rhymes(0, 1), 0);
        CHECK.refused(x, "0", x.rhymes(3, 0), 2);
        CHECK.refused(x, "9", x.rhymes(3, 9), 2);
        CHECK.refused(x, "word 8", x.rhymes(8, 9), 1);
        CHECK.refused(x, "word -1", x.rhymes(-1, 1), 1);
        x.lose(letter('p'));
        same("itself can't be said", x.rhymes(3, 2), 16);
        same("the other can't", x.rhymes(4, 2), 0);
        x = Check.told("tongue year 1;thing a;word at means a;word bat means a;coined abcdefgh means a;"
                + "word t means a;coined cat means a;word eat means a");
        same("at", x.rhymes(0, 1), 2 + 4 + 8);
        same("at", x.rhymes(0, 2), 2 + 8);
        same("bat", x.rhymes(1, 3), 0);
        x.coin(1);
        same("bat", x.rhymes(1, 2), 1 + 8 + 32);
        same("long", x.rhymes(4, 8), 0);
        x = Check.told(BARE + ";word at means a;word au means a;word abcdefgh means a;word zbcdefgh means a");
        same("t and u", x.rhymes(0, 1), 0);
        same("seven", x.rhymes(2, 7), 8);
        same("eight", x.rhymes(2, 8), 0);
    }

    static void promise20() {
        GapLetter x = new GapLetter();
        CHECK.refused(x, "no tongue", x.which(), 1);
        x = pets();
        CHECK.granted(x, "which", x.which(), Check.letters("ot"));
        x = Check.told(BARE);
        CHECK.granted(x, "all", x.which(), (1 << 26) - 1);
        x = Check.told(BARE + ";heard abc;shunned cd;shunned ad");
        same("d", x.which(), 8);
        x = Check.told(BARE + ";heard abc;shunned ab");
        CHECK.granted(x, "none", x.which(), 0);
    }

    static void promise21() {
        GapLetter x = new GapLetter();
        CHECK.refused(x, "no tongue", x.bill(), 1);
        x = pets();
        CHECK.granted(x, "all alike", x.bill(), 0);
        x = Check.told(BARE + ";shunned abcd;word a means a;word ab means a;coined cd means a;word ac means a");
        CHECK.granted(x, "halves", x.bill(), 1);
        x = Check.told(BARE + ";shunned ab;heard ba;word a means a");
        CHECK.granted(x, "none is left", x.bill(), -2);
        x = Check.told(BARE + ";coined a means a");
        x.coin(0);
        CHECK.granted(x, "no word", x.bill(), -2);
    }

    static void promise22() {
        GapLetter x = new GapLetter();
        CHECK.refused(x, "no tongue", x.billLeaves(), 1);
        x = pets();
        CHECK.granted(x, "all alike", x.billLeaves(), 2);
        x = Check.told(BARE + ";shunned abcd;word a means a;word ab means a");
        CHECK.granted(x, "halves", x.billLeaves(), 2);
        x = Check.told(BARE + ";shunned abcde;word a means a;word abc means a");
        same("the greater half", x.billLeaves(), 3);
        x = Check.told(BARE + ";word abcdefgh means a");
        same("of all", x.billLeaves(), 18);
        x = Check.told(BARE + ";shunned ab;heard ba;word a means a");
        CHECK.granted(x, "none is left", x.billLeaves(), -2);
        x = Check.told(BARE);
        CHECK.granted(x, "no word", x.billLeaves(), -2);
    }

    static void promise23() {
        GapLetter x = new GapLetter();
        CHECK.refused(x, "no tongue", x.judge(30), 1);
        x = pets();
        CHECK.granted(x, "e", x.judge(letter('e')), 0);
        same("a", x.judge(0), 1);
        same("m", x.judge(letter('m')), 2);
        CHECK.granted(x, "o", x.judge(letter('o')), -2);
        CHECK.refused(x, "26", x.judge(26), 2);
        CHECK.refused(x, "-1", x.judge(-1), 2);
    }

    static void promise24() {
        GapLetter x = new GapLetter();
        CHECK.refused(x, "no tongue", x.worst(), 1);
        x = pets();
        CHECK.granted(x, "h", x.worst(), letter('h'));
        x.lose(letter('h'));
        x.lose(letter('m'));
        same("p by which cat goes", x.worst(), letter('p'));
        for (int letter = 0; letter < 25; letter++) {
            x.lose(letter);
        }
        CHECK.granted(x, "all are gone", x.worst(), -2);
    }

    static void promise25() {
        GapLetter x = new GapLetter();
        CHECK.refused(x, "no tongue", x.kindest(), 1);
        x = pets();
        CHECK.granted(x, "a", x.kindest(), 0);
        x.lose(0);
        same("b", x.kindest(), 1);
        x = Check.told(BARE + ";word abc means a;word cde means a;gone d day 0");
        same("d is gone, e isn't", x.kindest(), letter('e'));
        for (int letter = 0; letter < 26; letter++) {
            x.lose(letter);
        }
        CHECK.granted(x, "all are gone", x.kindest(), -2);
    }

    static void promise26() {
        GapLetter x = new GapLetter();
        CHECK.refused(x, "no tongue", x.dumb(), 1);
        x = pets();
        CHECK.granted(x, "three", x.dumb(), Check.letters("eop"));
        x.lose(letter('e'));
        same("two", x.dumb(), Check.letters("op"));
        x.lose(letter('p'));
        same("one", x.dumb(), Check.letters("o"));
        x.lose(letter('t'));
        CHECK.granted(x, "dumb", x.dumb(), 0);
        x = Check.told(BARE + ";word ab means a");
        same("an a", x.dumb(), 1);
        x = Check.told(BARE + ";word bz means a;word cz means a");
        same("fewest first", x.dumb(), Check.letters("z"));
        x = Check.told(BARE + ";word bz means a;word cd means a");
        same("first by letters", x.dumb(), Check.letters("bc"));
        x = Check.told(BARE + ";word a means a;word b means a;word c means a;word d means a");
        CHECK.granted(x, "three aren't enough", x.dumb(), -2);
    }

    static void promise27() {
        GapLetter x = pets();
        CHECK.granted(x, "pets", x.hinges(0), 0);
        same("zoo", x.hinges(1), Check.letters("hot"));
        x.lose(letter('m'));
        same("pets", x.hinges(0), Check.letters("pus"));
        CHECK.refused(x, "2", x.hinges(2), 1);
        CHECK.refused(x, "-1", x.hinges(-1), 1);
        x.lose(letter('h'));
        CHECK.refused(x, "can't be said", x.hinges(1), 5);
        x = Check.told(BARE + ";saying s of a;word az means a");
        same("a, z", x.hinges(0), Check.letters("az"));
    }

    static void promise28() {
        GapLetter x = new GapLetter();
        CHECK.refused(x, "no tongue", x.again(), 1);
        x = pets();
        CHECK.granted(x, "all can be said", x.again(), 0);
        x.lose(letter('t'));
        x.lose(letter('u'));
        same("moggy, o", x.again(), 1 + 4);
        x.coin(0);
        same("o", x.again(), 4);
        x.lose(letter('x'));
        CHECK.granted(x, "hound has a u", x.again(), -2);
        x = Check.told("tongue year 1;thing a;thing b;coined c means a;coined d means b;coined e means a;coined f means b");
        same("least bits", x.again(), 3);
        x.lose(letter('c'));
        same("least bits", x.again(), 2 + 4);
    }

    static void promise29() {
        GapLetter x = new GapLetter();
        CHECK.refused(x, "no tongue", x.rarest(), 1);
        x = pets();
        CHECK.granted(x, "owl", x.rarest(), 2);
        x.lose(letter('h'));
        same("of like ones the first", x.rarest(), 0);
        x.lose(letter('x'));
        same("dog", x.rarest(), 1);
        x = Check.told(BARE);
        CHECK.granted(x, "none can", x.rarest(), -2);
    }

    static void promise30() {
        GapLetter x = pets();
        CHECK.granted(x, "tm", x.readings(0, letter('o')), 1);
        same("ht", x.readings(1, letter('o')), 16);
        same("spt", x.readings(2, letter('o')), 8);
        CHECK.granted(x, "spt", x.readings(2, letter('e')), 0);
        CHECK.refused(x, "old 3", x.readings(3, 26), 1);
        CHECK.refused(x, "old -1", x.readings(-1, 0), 1);
        CHECK.refused(x, "letter 26", x.readings(0, 26), 2);
        CHECK.refused(x, "letter -1", x.readings(0, -1), 2);
        x = Check.told(BARE + ";old bc;word bc means a;word abac means a;coined bca means a;word bcaa means a;gone a day 0");
        same("one must be in it, though gone", x.readings(0, 0), 2 + 4);
        x.coin(0);
        same("coined aren't told", x.readings(0, 0), 2 + 4);
        x = new GapLetter();
        CHECK.refused(x, "no tongue", x.readings(0, 0), 1);
    }

    static void promise31() {
        GapLetter x = new GapLetter();
        CHECK.refused(x, "no tongue", x.ways(26), 1);
        x = pets();
        CHECK.granted(x, "o", x.ways(letter('o')), 1);
        CHECK.granted(x, "t", x.ways(letter('t')), 0);
        CHECK.refused(x, "26", x.ways(26), 2);
        CHECK.refused(x, "-1", x.ways(-1), 2);
        x = Check.told(BARE);
        same("no old words", x.ways(3), 1);
        x = Check.told(BARE + ";word xb means a;word bx means a;word xbx means a;word cx means a;word xc means a;"
                + "old b;old c;old b");
        same("ways", x.ways(letter('x')), 3 * 2 * 3);
    }

    static void promise32() {
        GapLetter x = new GapLetter();
        CHECK.refused(x, "no tongue", x.stoodOut(), 1);
        x = pets();
        CHECK.granted(x, "o", x.stoodOut(), Check.letters("o"));
        x = Check.told(BARE);
        CHECK.granted(x, "all", x.stoodOut(), (1 << 26) - 1);
        x = Check.told(BARE + ";old b;word bx means a;word by means a");
        same("x, y", x.stoodOut(), Check.letters("xy"));
        x = Check.told(BARE + ";old b;old c;word bx means a;word cy means a");
        CHECK.granted(x, "none", x.stoodOut(), 0);
    }

    static void promise33() {
        GapLetter x = new GapLetter();
        CHECK.refused(x, "no tongue", x.twins(-1), 1);
        x = pets();
        CHECK.granted(x, "none", x.twins(letter('o')), -2);
        CHECK.refused(x, "26", x.twins(26), 2);
        CHECK.refused(x, "-1", x.twins(-1), 2);
        x = Check.told(BARE + ";word cat means a;word ct means a;word bxb means a;word cta means a;word bb means a;word bbx means a");
        same("a", x.twins(0), 1);
        same("x", x.twins(letter('x')), 24);
        same("t", x.twins(letter('t')), 3);
        same("c", x.twins(letter('c')), -2);
        x = Check.told(BARE + ";word q means a;word b means a;word bb means a;coined bbb means a");
        same("nothing is left of both", x.twins(1), 12);
        x = Check.told(BARE + ";word qb means a;coined q means a");
        same("not coined ones", x.twins(1), -2);
    }

    static void promise34() {
        GapLetter x = pets();
        CHECK.granted(x, "tom", x.wins(0), 1);
        same("puss, spot, tom", x.wins(1), 1);
        same("rex", x.wins(2), 1);
        CHECK.granted(x, "spot, tom", x.wins(3), 0);
        same("hoot, tom", x.wins(4), 0);
        CHECK.refused(x, "not coined", x.wins(5), 5);
        CHECK.refused(x, "8", x.wins(8), 1);
        CHECK.refused(x, "-1", x.wins(-1), 1);
        x.coin(0);
        same("tom, moggy", x.wins(0), 0);
        same("spot, tom, moggy", x.wins(3), 1);
        x.lose(letter('m'));
        CHECK.refused(x, "tom can't be said", x.wins(0), 5);
        same("spot", x.wins(3), 1);
        x = Check.told(BARE + ";word aa means a;word aba means a;word aca means a");
        same("three in a ring", x.wins(0), 1);
        x.lose(1);
        same("two in a ring", x.wins(0), 0);
        Check.tell(x, BARE + ";word pq means a;word aba means a;word bca means a");
        same("another tongue", x.wins(0), 1);
    }

    static void promise35() {
        GapLetter x = new GapLetter();
        CHECK.refused(x, "no tongue", x.opening(), 1);
        x = pets();
        CHECK.granted(x, "tom", x.opening(), 0);
        x.lose(letter('m'));
        same("puss loses by spot", x.opening(), 2);
        x = Check.told(BARE);
        CHECK.granted(x, "no words", x.opening(), -2);
        x = Check.told(BARE + ";word aba means a;word aca means a");
        CHECK.granted(x, "none wins", x.opening(), -2);
    }

    static void promise36() {
        GapLetter x = pets();
        CHECK.granted(x, "to spot: tom", x.answer(3), 0);
        CHECK.granted(x, "to puss: spot loses", x.answer(1), -2);
        CHECK.granted(x, "to tom", x.answer(0), -2);
        CHECK.refused(x, "not coined", x.answer(6), 5);
        CHECK.refused(x, "8", x.answer(8), 1);
        CHECK.refused(x, "-1", x.answer(-1), 1);
        x = Check.told(BARE + ";word xa means a;word ab means a;word bc means a;word aa means a;word ac means a");
        same("the first that wins", x.answer(0), 4);
        x = Check.told(BARE + ";word aba means a;word aca means a");
        same("the word itself is said", x.answer(0), 1);
    }

    static void promise37() {
        GapLetter x = new GapLetter();
        CHECK.refused(x, "no tongue", x.longestChain(), 1);
        x = pets();
        CHECK.granted(x, "puss, spot, tom", x.longestChain(), 3);
        x.coin(0);
        same("puss, spot, tom, moggy", x.longestChain(), 4);
        x.lose(letter('o'));
        same("one", x.longestChain(), 1);
        x = Check.told(BARE);
        CHECK.granted(x, "none", x.longestChain(), 0);
        x = Check.told(BARE + ";word aa means a;word aba means a;word aca means a;word ada means a;word aea means a;"
                + "word afa means a;word aga means a;word aha means a;coined aia means a;coined aja means a;"
                + "coined aka means a;coined ala means a");
        same("eight", x.longestChain(), 8);
        for (int k = 0; k < 4; k++) {
            x.coin(k);
        }
        same("twelve", x.longestChain(), 12);
        same("an even ring", x.wins(0), 0);
    }

    static void promise38() {
        GapLetter x = pets();
        CHECK.granted(x, "tom", x.answers(0), 0);
        same("spot", x.answers(3), 1);
        CHECK.refused(x, "not coined", x.answers(7), 5);
        CHECK.refused(x, "8", x.answers(8), 1);
        CHECK.refused(x, "-1", x.answers(-1), 1);
        x = Check.told(BARE + ";word aba means a;word aca means a;word b means a;word azb means a;gone z day 0");
        same("itself aside", x.answers(0), 1);
        CHECK.refused(x, "can't be said", x.answers(3), 5);
    }

    private static void odds(GapLetter x, String what, int t, int n, long upper, long lower) {
        CHECK.granted(x, what, x.yet(t, n, false), upper);
        CHECK.granted(x, what, x.yet(t, n, true), lower);
    }

    static void promise39() {
        GapLetter x = pets();
        odds(x, "owl", 2, 0, 1, 1);
        odds(x, "owl", 2, 1, 22, 25);
        odds(x, "cat", 0, 1, 1, 1);
        odds(x, "cat", 0, 2, 97, 100);
        odds(x, "owl", 2, 3, 1540 / 20, 2300 / 20);
        CHECK.refused(x, "4", x.yet(0, 4, false), 2);
        CHECK.refused(x, "-1", x.yet(0, -1, false), 2);
        CHECK.refused(x, "thing 3", x.yet(3, 4, false), 1);
        CHECK.refused(x, "thing -1", x.yet(-1, 0, true), 1);
        x.lose(letter('h'));
        odds(x, "never", 2, 1, 0, 1);
        for (int letter = 0; letter < 24; letter++) {
            x.lose(letter);
        }
        odds(x, "one left", 2, 1, 0, 1);
        CHECK.refused(x, "two aren't left", x.yet(2, 2, true), 2);
        x = new GapLetter();
        CHECK.refused(x, "no tongue", x.yet(0, 0, true), 1);
    }

    static void promise40() {
        GapLetter x = new GapLetter();
        CHECK.refused(x, "no tongue", x.mean(4, true), 1);
        x = pets();
        CHECK.granted(x, "0", x.mean(0, false), 3);
        CHECK.granted(x, "0", x.mean(0, true), 1);
        CHECK.granted(x, "1", x.mean(1, false), 25 + 25 + 22);
        CHECK.granted(x, "1", x.mean(1, true), 25);
        CHECK.refused(x, "4", x.mean(4, true), 2);
        CHECK.refused(x, "-1", x.mean(-1, false), 2);
        for (int letter = 0; letter < 24; letter++) {
            x.lose(letter);
        }
        same("none", x.mean(1, false), 0);
        same("by one", x.mean(1, true), 1);
        CHECK.refused(x, "two aren't left", x.mean(2, true), 2);
    }

    static void promise41() {
        GapLetter x = new GapLetter();
        CHECK.refused(x, "no tongue", x.silence(-1), 1);
        x = Check.told(BARE + ";word iy means a;word s means a;gone z day 0");
        CHECK.granted(x, "y, i, s", x.silence(0), 3);
        x = Check.told(BARE);
        CHECK.granted(x, "at once", x.silence(65536), 0);
        CHECK.refused(x, "65537", x.silence(65537), 2);
        CHECK.refused(x, "-1", x.silence(-1), 2);
    }

    static void promise42() {
        GapLetter x = new GapLetter();
        CHECK.refused(x, "no tongue", x.saidBehind(-1, 0), 1);
        x = Check.told("tongue year 1;thing a;thing b;word iy means a;word s means b;gone z day 0");
        CHECK.granted(x, "0", x.saidBehind(0, 0), 2);
        same("y", x.saidBehind(0, 1), 1);
        same("y, i", x.saidBehind(0, 2), 1);
        same("y, i, s", x.saidBehind(0, 3), 0);
        same("all", x.saidBehind(0, 25), 0);
        same("gone as it was", x.gone(), Check.letters("z"));
        CHECK.refused(x, "26", x.saidBehind(0, 26), 2);
        CHECK.refused(x, "-1", x.saidBehind(0, -1), 2);
        CHECK.refused(x, "65537", x.saidBehind(65537, 0), 2);
        CHECK.refused(x, "-1", x.saidBehind(-1, 0), 2);
    }

    static void promise43() {
        GapLetter x = new GapLetter();
        CHECK.refused(x, "no tongue", x.goesAt(-1, 1), 1);
        x = Check.told(BARE + ";gone z day 0");
        CHECK.granted(x, "74 mod 25", x.goesAt(0, 1), letter('y'));
        same("5624 mod 24", x.goesAt(0, 2), letter('i'));
        same("28652 mod 23", x.goesAt(0, 3), letter('s'));
        same("65536 becomes 65536", x.goesAt(65536, 1), (65536 * 75L + 74) % 65537 % 25);
        int all = 1 << 25;
        for (int n = 1; n <= 25; n++) {
            all |= 1 << x.goesAt(12345, n);
        }
        same("each once", all, (1 << 26) - 1);
        CHECK.refused(x, "0", x.goesAt(0, 0), 2);
        CHECK.refused(x, "26", x.goesAt(0, 26), 2);
        CHECK.refused(x, "65537", x.goesAt(65537, 1), 2);
        CHECK.refused(x, "-1", x.goesAt(-1, 1), 2);
    }

    static void promise44() {
        GapLetter x = new GapLetter();
        CHECK.refused(x, "no tongue", x.lose(26), 1);
        x = pets();
        CHECK.granted(x, "a", x.lose(0));
        CHECK.refused(x, "a is gone", x.lose(0), 5);
        CHECK.refused(x, "z is gone", x.lose(25), 5);
        CHECK.refused(x, "26", x.lose(26), 2);
        CHECK.refused(x, "-1", x.lose(-1), 2);
        same("gone", x.gone(), Check.letters("az"));
        same("an act", x.size(9), 1);
    }

    static void promise45() {
        GapLetter x = new GapLetter();
        CHECK.refused(x, "no tongue", x.find(26), 1);
        x = pets();
        CHECK.granted(x, "z", x.find(25));
        CHECK.refused(x, "z isn't gone", x.find(25), 5);
        CHECK.refused(x, "26", x.find(26), 2);
        CHECK.refused(x, "-1", x.find(-1), 2);
        same("gone", x.gone(), 0);
        same("an act", x.size(9), 1);
    }

    static void promise46() {
        GapLetter x = new GapLetter();
        CHECK.refused(x, "no tongue", x.coin(0), 1);
        x = pets();
        CHECK.granted(x, "hound", x.coin(1));
        CHECK.refused(x, "it is", x.coin(1), 5);
        CHECK.refused(x, "3", x.coin(3), 1);
        CHECK.refused(x, "-1", x.coin(-1), 1);
        same("hound", x.word(6, 2), 1);
        same("not moggy", x.word(5, 2), 0);
        same("an act", x.size(9), 1);
    }

    static void promise47() {
        GapLetter x = new GapLetter();
        CHECK.refused(x, "no tongue", x.days(0), 1);
        x = pets();
        CHECK.granted(x, "1", x.days(1), 0);
        CHECK.granted(x, "2", x.days(1), Check.letters("px"));
        same("day", x.size(8), 2);
        x.find(letter('p'));
        same("6 more", x.days(6), 0);
        same("anew, x is gone already", x.days(1), Check.letters("p"));
        CHECK.refused(x, "0", x.days(0), 2);
        CHECK.refused(x, "100", x.days(100), 2);
        CHECK.refused(x, "-1", x.days(-1), 2);
        for (int i = 0; i < 10; i++) {
            x.days(99);
        }
        same("day", x.size(8), 999);
        CHECK.refused(x, "1,000", x.days(1), 3);
        CHECK.refused(x, "a number first", x.days(100), 2);
        x.undo();
        CHECK.refused(x, "1,000", x.days(100), 2);
        same("day", x.size(8), 900);
        CHECK.granted(x, "999", x.days(99), 0);
        x = Check.told("tongue year 3;thing a;gone a day 4;gone b day 2;gone c day 3");
        x.find(2);
        same("all in three days", x.days(3), Check.letters("abc"));
    }

    static void promise48() {
        GapLetter x = new GapLetter();
        CHECK.refused(x, "no tongue", x.undo(), 6);
        x = pets();
        CHECK.refused(x, "nothing yet", x.undo(), 6);
        x.lose(0);
        x.find(25);
        x.coin(0);
        x.days(2);
        x.lose(0);
        same("acts", x.size(9), 4);
        CHECK.granted(x, "days", x.undo());
        same("day", x.size(8), 0);
        same("gone", x.gone(), 1);
        CHECK.granted(x, "coin", x.undo());
        same("moggy", x.word(5, 4), 0);
        x.undo();
        same("z", x.gone(), Check.letters("az"));
        x.undo();
        same("a", x.gone(), Check.letters("z"));
        CHECK.refused(x, "nothing more", x.undo(), 6);
        for (int letter = 0; letter < 20; letter++) {
            x.lose(letter);
        }
        same("16 are kept", x.size(9), 16);
        for (int i = 0; i < 16; i++) {
            CHECK.granted(x, "one of 16", x.undo());
        }
        CHECK.refused(x, "no more than 16", x.undo(), 6);
        same("four stay", x.gone(), Check.letters("abcdz"));
    }

    static void promise49() {
        GapLetter x = new GapLetter();
        CHECK.refused(x, "no tongue", x.mark(), 1);
        x = pets();
        CHECK.granted(x, "first", x.mark(), 0);
        CHECK.granted(x, "second", x.mark(), 1);
        CHECK.granted(x, "third", x.mark(), 2);
        CHECK.refused(x, "no room", x.mark(), 3);
        same("marks", x.size(10), 3);
        same("no act", x.size(9), 0);
    }

    static void promise50() {
        GapLetter x = new GapLetter();
        CHECK.refused(x, "no tongue", x.back(0), 1);
        x = pets();
        CHECK.refused(x, "none yet", x.back(0), 1);
        x.lose(0);
        x.mark();
        x.days(2);
        x.coin(0);
        x.mark();
        x.undo();
        CHECK.granted(x, "to the first", x.back(0));
        same("gone", x.gone(), Check.letters("az"));
        same("day", x.size(8), 0);
        same("nothing to undo", x.size(9), 0);
        CHECK.refused(x, "undo", x.undo(), 6);
        same("marks stay", x.size(10), 2);
        CHECK.granted(x, "to the second", x.back(1));
        same("day", x.size(8), 2);
        same("coined", x.word(5, 4), 1);
        same("gone", x.gone(), Check.letters("apxz"));
        CHECK.refused(x, "2", x.back(2), 1);
        CHECK.refused(x, "-1", x.back(-1), 1);
        same("the tape isn't touched", Check.feed(x, "a"), 20);
        x.back(0);
        same("the tape isn't touched", x.size(11), 20);
    }

    static void promise51() {
        GapLetter x = new GapLetter();
        CHECK.same("no tongue", ledThrows(x, 0), true);
        x = pets();
        CHECK.same("all can be said", ledThrows(x, 0), true);
        x.lose(letter('m'));
        x.lose(letter('s'));
        x.lose(letter('h'));
        same("cat", x.led(0), 0);
        same("owl", x.led(1), 2);
        CHECK.same("2", ledThrows(x, 2), true);
        CHECK.same("-1", ledThrows(x, -1), true);
        x.lose(letter('h'));
        same("led keeps trouble", x.led(0) == 0 ? x.trouble() : -1, 5);
    }

    static void promise52() {
        GapLetter x = pets();
        int[] due = {7, 3, 2, 5, 3, 3, 3, 3, 0, 0, 0, 0};
        for (int what = 0; what < due.length; what++) {
            same("size " + what, x.size(what), due[what]);
        }
        x.days(5);
        x.lose(0);
        x.mark();
        x.feed(0, 0, 0, 0, 0);
        same("day", x.size(8), 5);
        same("acts", x.size(9), 2);
        same("marks", x.size(10), 1);
        same("tape", x.size(11), 20);
        same("12", x.size(12), -1);
        same("-1", x.size(-1), -1);
    }

    /** A tongue in which every row is full, so that the last place of each is used. */
    private static void full() {
        StringBuilder text = new StringBuilder("tongue year 99");
        for (char t = 'a'; t <= 'f'; t++) {
            text.append(";thing ").append(t);
        }
        for (char k = 'p'; k <= 't'; k++) {
            text.append(";saying ").append(k).append(" of f,e,d,").append(k == 't' ? 'f' : 'c');
        }
        for (char k = 'a'; k <= 'd'; k++) {
            text.append(";coined zzzz").append(k).append("zzz means f");
        }
        for (char w = 'a'; w <= 'h'; w++) {
            text.append(";word x").append(w).append(w < 'f' ? " means " + w : "yyyyyx means f");
        }
        for (char l = 'u'; l <= 'z'; l++) {
            text.append(";gone ").append(l).append(" day ").append(l == 'z' ? 99 : 98);
        }
        text.append(";heard a;heard b;heard c;heard d;heard e;shunned fx;old f;old f;old f;old f;old fyyyyyx");
        GapLetter x = Check.told(text.toString());
        int[] due = {99, 6, 5, 8, 4, 6, 6, 5, 0, 0, 0, 0};
        for (int what = 0; what < due.length; what++) {
            same("full size " + what, x.size(what), due[what]);
        }
        same("gone", x.gone(), Check.letters("z"));
        same("f", x.thing(5, 2), 32 + 64 + 128);
        same("f by its first", x.thing(5, 0), 5);
        x.find(25);
        for (int k = 0; k < 4; k++) {
            CHECK.granted(x, "coin", x.coin(k));
        }
        same("f", x.thing(5, 2), 4096 - 32);
        same("f by its first", x.thing(5, 0), 5);
        same("last saying", x.saying(4), 8 + 2 + 2 + 8 + 3);
        same("longest saying", x.longestSaying(), 4);
        same("last coined", x.word(11, 3), Check.letters("dz"));
        same("rhymes", x.rhymes(11, 3), 256 + 512 + 1024);
        same("which", x.which(), Check.letters("fx"));
        same("judge", x.judge(letter('g')), 5);
        same("old", x.readings(4, letter('x')), 0);
        same("answers in a ring", x.answers(5), 7);
        same("rows of z", x.answers(8), 3);
        same("in a row", x.longestChain(), 4);
        same("days", x.days(98), Check.letters("uvwxy"));
        same("unsaid", x.led(4), 4);
        same("said", x.said(), 32);
    }

    /** Words of one thing alone, as many as there may be. */
    private static void twelve() {
        StringBuilder text = new StringBuilder(BARE);
        for (int i = 0; i < 12; i++) {
            text.append(i < 8 ? ";word k" : ";coined k").append((char) ('a' + i)).append("k means a");
        }
        GapLetter x = Check.told(text.toString());
        for (int k = 0; k < 4; k++) {
            x.coin(k);
        }
        same("twelve words", x.thing(0, 3), 12);
        same("rarest of one", x.rarest(), 0);
        same("twelve in a row", x.longestChain(), 12);
        same("an even ring", x.opening(), -2);
        same("the best answer", x.answer(11), 0);
        same("eleven answers", x.answers(11), 11);
        same("a hinge of all", x.dumb(), Check.letters("k"));
    }

    static void promise53() {
        GapLetter x = new GapLetter();
        same("at first", x.trouble(), 0);
        x.gone();
        x.size(99);
        x.fault();
        x.where();
        same("calls without a number don't count", x.trouble(), 1);
        same("nor feed", x.feed(0, 0, 0, 0, 0) == 20 ? x.trouble() : -1, 1);
        CHECK.refused(x, "a fault", x.tongue(20), 4);
        CHECK.refused(x, "a number", x.tongue(20), 2);
        CHECK.refused(x, "nothing", x.undo(), 6);
        CHECK.granted(x, "a tongue", Check.tell(x, PETS), 3);
        CHECK.refused(x, "not so", x.lose(25), 5);
        CHECK.granted(x, "none, but not refused", x.judge(letter('o')), -2);
        x.mark();
        x.mark();
        x.mark();
        CHECK.refused(x, "no room", x.mark(), 3);
        same("trouble stays", x.trouble(), 3);
    }
}
