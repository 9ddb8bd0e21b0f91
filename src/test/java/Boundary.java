import java.io.IOException;
import java.nio.file.Files;
import java.nio.file.Path;
import java.util.ArrayList;
import java.util.List;
import java.util.NoSuchElementException;
import java.util.Set;
import java.util.TreeSet;
import java.util.function.Supplier;
import java.util.function.ToLongFunction;

/** What the boundary tests share: each answer is compared under the sentence of the document that asks for it. */
class Boundary {
    /** A call with one number that has bounds. */
    interface Bounded {
        long on(GapLetter x, int number);
    }

    static final int ALL = (1 << 26) - 1;
    static final int A = 0;
    static final int Z = 25;
    static final String BARE = "tongue year 1;thing a";
    /**
     * As many lines of each sort as there is room for. Things: 0 a to 5 f. Words: 0 k, 1 lm, 2 nop, 3 qrst, 4 uvwx,
     * 5 abcdefgh, 6 yk, 7 z; coined: 8 ij, 9 ji, 10 iji, 11 jij. Gone at first: a, d, by which f can't be said.
     */
    static final String FULL = "tongue year 99;thing a;thing b;thing c;thing d;thing e;thing f"
            + ";saying p of a;saying q of a,b;saying r of a,b,c;saying s of a,b,c,d;saying t of f,f,f,f"
            + ";word k means a;word lm means b;word nop means c;word qrst means d;word uvwx means e"
            + ";word abcdefgh means f;word yk means a;word z means b"
            + ";coined ij means c;coined ji means d;coined iji means e;coined jij means f"
            + ";gone a day 0;gone b day 1;gone c day 98;gone d day 99;gone y day 50;gone z day 49"
            + ";heard k;heard lm;heard nop;shunned ay;shunned ayz;shunned xy;old k;old lm;old op;old no;old np";

    private static final Path DOCUMENT = Path.of("../shared/DOC.md");
    private static final Set<Integer> PROMISES = new TreeSet<>();
    private static String document = null;
    private static Check check = null;
    private static String label = "";
    private static int answersAtFirst = 0;

    static void begin(String name) throws IOException {
        check = new Check(name);
        document = Files.exists(DOCUMENT) ? Files.readString(DOCUMENT) : null;
    }

    /** All that follows is compared under these words of the document. */
    static void sentence(String where, String words) {
        closeSentence();
        label = where + " '" + words + "': ";
        if (where.startsWith("Promise ")) {
            PROMISES.add(Integer.parseInt(where.substring(8)));
        }
        if (document != null) {
            due("these words stand there", part(where).contains(words), true);
        }
        answersAtFirst = check.answers();
    }

    private static void closeSentence() {
        if (!label.isEmpty()) {
            check.same(label + "has a test", check.answers() > answersAtFirst, true);
        }
    }

    /** A promise, one of the four terms, or what stands ahead of them. */
    private static String part(String where) {
        boolean isTerm = where.startsWith("Terms ");
        String head = isTerm ? "\n" + where.substring(6) + ". " : "## " + where;
        String behind = where.startsWith("Promise ") ? ":" : "";
        int from = document.indexOf(head + behind);
        if (from < 0) {
            return "";
        }
        int to = document.indexOf("\n## ", from);
        String found = document.substring(from, to < 0 ? document.length() : to);
        int next = isTerm ? nextTerm(found) : -1;
        return next < 0 ? found : found.substring(0, next);
    }

    private static int nextTerm(String text) {
        for (String term : List.of("\nII. ", "\nIII. ", "\nIV. ")) {
            int at = text.indexOf(term, 1);
            if (at > 0) {
                return at;
            }
        }
        return -1;
    }

    /** The promises from one to another must have been named. */
    static void end(int first, int last) {
        closeSentence();
        label = "";
        for (int number = first; number <= last; number++) {
            check.same("promise " + number + " is named", PROMISES.contains(number), true);
        }
        check.end();
    }

    static void due(String what, long got, long due) {
        check.same(label + what, got, due);
    }

    static void due(String what, boolean got, boolean due) {
        check.same(label + what, got, due);
    }

    static Supplier<GapLetter> told(String text) {
        return () -> Check.told(text);
    }

    static Supplier<GapLetter> full() {
        return told(FULL);
    }

    static int letter(char sign) {
        return sign - 'a';
    }

    static int bits(String letters) {
        return Check.letters(letters);
    }

    static long yes(boolean answer) {
        return answer ? 1 : 0;
    }

    static GapLetter without(GapLetter x, String letters) {
        for (char sign : letters.toCharArray()) {
            due("lose " + sign, x.lose(letter(sign)), true);
        }
        return x;
    }

    static GapLetter coinAll(GapLetter x) {
        for (int k = 0; k < x.size(4); k++) {
            due("coin " + k, x.coin(k), true);
        }
        return x;
    }

    /** All letters but these, of those that aren't gone by now. */
    static GapLetter onlyLeft(GapLetter x, String letters) {
        for (int at = A; at <= Z; at++) {
            if (letters.indexOf('a' + at) < 0 && (x.gone() >> at & 1) == 0) {
                x.lose(at);
            }
        }
        return x;
    }

    /** A call that isn't refused: its trouble is 0, whatever that was before. */
    static void grants(Supplier<GapLetter> made, String what, ToLongFunction<GapLetter> call, long due) {
        GapLetter x = made.get();
        x.back(-1);
        due("trouble ahead of " + what, x.trouble(), 1);
        due(what, call.applyAsLong(x), due);
        due("trouble behind " + what, x.trouble(), 0);
        due("where behind " + what, x.where(), -1);
    }

    /** A call that answers NONE, with its trouble, and leaves all as it was. */
    static void refuses(Supplier<GapLetter> made, String what, ToLongFunction<GapLetter> call, int why) {
        refuses(made, what, call, -1, why);
    }

    /** The same of a call that answers false. */
    static void denies(Supplier<GapLetter> made, String what, ToLongFunction<GapLetter> act, int why) {
        refuses(made, what, act, 0, why);
    }

    private static void refuses(Supplier<GapLetter> made, String what, ToLongFunction<GapLetter> call, int answer,
            int why) {
        GapLetter x = made.get();
        int fed = x.size(11);
        int fault = x.fault();
        due(what, call.applyAsLong(x), answer);
        due("trouble behind " + what, x.trouble(), why);
        due("where behind " + what, x.where(), -1);
        due("fault behind " + what, x.fault(), fault);
        due("tape behind " + what, x.size(11), fed);
        stays(what, x, made.get());
    }

    /** An object that some call left alone must go on as one that had no such call. */
    static void stays(String what, GapLetter x, GapLetter twin) {
        due(what + " leaves all as it was", trace(x).equals(trace(twin)), true);
    }

    static void isNoTongue(String what, ToLongFunction<GapLetter> call) {
        refuses(GapLetter::new, what + " without a tongue", call, 1);
    }

    /** The first and the last number that are allowed, and those that aren't. */
    static void bounds(Supplier<GapLetter> made, String what, Bounded call, int first, int last, int why) {
        bounds(made, what, call, new int[] {first, last, -1, why});
    }

    static void actBounds(Supplier<GapLetter> made, String what, Bounded call, int first, int last, int why) {
        bounds(made, what, call, new int[] {first, last, 0, why});
    }

    private static void bounds(Supplier<GapLetter> made, String what, Bounded call, int[] limits) {
        for (int wrong : new int[] {limits[0] - 1, limits[1] + 1, Integer.MIN_VALUE, Integer.MAX_VALUE}) {
            refuses(made, what + " of " + wrong, x -> call.on(x, wrong), limits[2], limits[3]);
        }
        for (int right : new int[] {limits[0], limits[1]}) {
            GapLetter x = made.get();
            due(what + " of " + right + " is refused", call.on(x, right) == limits[2], false);
            due("trouble behind " + what + " of " + right, x.trouble(), 0);
        }
    }

    /** What an object answers to calls that only ask. */
    static List<Long> answersOf(GapLetter x) {
        List<Long> found = new ArrayList<>();
        for (int answer : new int[] {x.gone(), x.said(), x.longest(), x.longestSaying(), x.which(), x.bill(), x.billLeaves(),
            x.worst(), x.kindest(), x.dumb(), x.again(), x.rarest(), x.stoodOut(), x.opening(), x.longestChain(),
            x.saidOn(1), x.saidOn(99)}) {
            found.add((long) answer);
        }
        for (int at = A; at <= Z; at++) {
            addAll(found, x.users(at), x.saidIf(at), x.judge(at), x.ways(at), x.twins(at));
        }
        for (int k = 0; k < 5; k++) {
            addAll(found, x.saying(k), x.dumbIn(k), x.lasts(k), x.hinges(k), x.readings(k, letter('o')));
        }
        for (int t = 0; t < 6; t++) {
            addAll(found, x.thing(t, 2), x.lettersOf(t), x.yet(t, 1, false));
        }
        for (int w = 0; w < 12; w++) {
            addAll(found, x.word(w, 0), x.word(w, 1), x.rhymes(w, 1), x.wins(w), x.answer(w), x.answers(w));
        }
        for (int what = 0; what <= 11; what++) {
            found.add((long) x.size(what));
        }
        return found;
    }

    private static void addAll(List<Long> found, long... answers) {
        for (long answer : answers) {
            found.add(answer);
        }
    }

    static boolean ledThrows(GapLetter x, int i) {
        try {
            x.led(i);
            return false;
        } catch (NoSuchElementException e) {
            return true;
        }
    }

    /** All that can be seen of an object, by undoing all, too, and by going back to each mark; the tape aside. */
    private static List<Long> trace(GapLetter x) {
        List<Long> found = new ArrayList<>();
        for (int what = 0; what <= 10; what++) {
            found.add((long) x.size(what));
        }
        int words = x.size(3);
        int all = words + x.size(4);
        for (int w = 0; w < all; w++) {
            found.add((long) x.word(w, 3));
        }
        addNow(found, x, words, all);
        for (int i = 0; i <= 16; i++) {
            found.add(yes(x.undo()));
            addNow(found, x, words, all);
        }
        for (int mark = 0; mark < 3; mark++) {
            found.add(yes(x.back(mark)));
            addNow(found, x, words, all);
        }
        return found;
    }

    private static void addNow(List<Long> found, GapLetter x, int words, int all) {
        found.add((long) x.gone());
        found.add((long) x.size(8));
        for (int w = words; w < all; w++) {
            found.add((long) x.word(w, 4));
        }
    }
}
