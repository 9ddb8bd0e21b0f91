import java.io.IOException;
import java.util.function.Supplier;

/** Terms II and promises 6 to 19 at their boundaries: what can be said now. */
public final class NowBoundaryTest extends Boundary {
    private static final String ONE = BARE + ";word abcdefgh means a";

    private NowBoundaryTest() {
    }

    public static void main(String[] args) throws IOException {
        begin("NowBoundaryTest");
        wordsThatCanBeSaid();
        thingsThatCanBeSaid();
        sayingsThatCanBeSaid();
        gone();
        word();
        thing();
        saying();
        dumbIn();
        said();
        longest();
        users();
        saidIf();
        lasts();
        saidOn();
        longestSaying();
        lettersOf();
        rhymes();
        end(6, 19);
    }

    private static GapLetter allFound(GapLetter x) {
        due("find a", x.find(A), true);
        due("find d", x.find(letter('d')), true);
        return x;
    }

    private static void wordsThatCanBeSaid() {
        sentence("Terms II", "A word can be SAID if no letter in it is gone NOW");
        for (int at = A; at <= Z; at++) {
            GapLetter x = Check.told(ONE);
            x.lose(at);
            due("without letter " + at, x.word(0, 2), at < 8 ? 0 : 1);
        }
        GapLetter x = onlyLeft(Check.told(ONE), "abcdefgh");
        due("without all others", x.word(0, 2), 1);
        x.lose(letter('h'));
        due("without its last", x.word(0, 2), 0);
        due("of one letter", onlyLeft(Check.told(BARE + ";word z means a"), "z").word(0, 2), 1);
        sentence("Terms II", "(coined ones too, once they are coined by COIN, behind the others, as they are told)");
        GapLetter y = Check.told(BARE + ";coined pp means a;word qq means a;coined r means a;word sss means a");
        due("told first", y.word(0, 3), bits("q"));
        due("told last", y.word(1, 3), bits("s"));
        due("coined first", y.word(2, 3), bits("p"));
        due("coined last", y.word(3, 3), bits("r"));
        due("not coined", y.word(2, 2) + y.word(3, 2), 0);
        y.coin(1);
        due("the other one isn't", y.word(2, 2), 0);
        due("coined", y.word(3, 2), 1);
        y.lose(letter('r'));
        due("coined, but a letter is gone", y.word(3, 2), 0);
        y.coin(0);
        due("of like ones the told one", y.thing(0, 0), 0);
    }

    private static void thingsThatCanBeSaid() {
        sentence("Terms II", "A thing can be SAID if a word that means it can: by the SHORTEST of these, of like ones the first told.");
        due("no word", Check.told(BARE).said(), 0);
        GapLetter x = Check.told(BARE + ";word abcd means a;word efg means a;word hij means a;word klm means a;coined no means a");
        due("first of like ones", x.thing(0, 0), 1);
        x.lose(letter('e'));
        due("the next", x.thing(0, 0), 2);
        x.coin(0);
        due("a shorter one", x.thing(0, 0), 4);
        without(x, "nhk");
        due("the longest", x.thing(0, 0), 0);
        x.lose(letter('d'));
        due("none", x.thing(0, 0), -2);
        due("none", x.said(), 0);
    }

    private static void sayingsThatCanBeSaid() {
        sentence("Terms II", "A saying can be SAID if all its things can: as long as their SHORTEST together, and 1 for each thing more than one.");
        GapLetter x = allFound(Check.told(FULL));
        due("of one", x.saying(0), 1);
        due("of two", x.saying(1), 1 + 1 + 1);
        due("of three", x.saying(2), 1 + 1 + 3 + 2);
        due("of four", x.saying(3), 1 + 1 + 3 + 4 + 3);
        due("of four of eight letters", x.saying(4), 4 * 8 + 3);
        x.lose(letter('q'));
        due("its last can't", x.saying(3), -2);
        due("others can", x.saying(2), 7);
        x.lose(letter('k'));
        due("its only one can't", x.saying(0), -2);
        due("its first can't", x.saying(1), -2);
    }

    private static void gone() {
        sentence("Promise 6", "Letters gone NOW, as bits.");
        grants(told(BARE), "none", GapLetter::gone, 0);
        grants(() -> onlyLeft(Check.told(BARE), ""), "all", GapLetter::gone, ALL);
        grants(told(BARE + ";gone a day 0"), "a", GapLetter::gone, 1);
        grants(told(BARE + ";gone z day 99"), "z", GapLetter::gone, 1 << 25);
        sentence("Promise 6", "NONE: 1 (no TONGUE).");
        isNoTongue("gone", GapLetter::gone);
    }

    private static void word() {
        sentence("Promise 7", "Of a word (told ones, then coined ones as told) 0 how long, 1 the thing, 2 1 if it can be SAID NOW, 3 letters in it, as bits, 4 1 if it may be said at all NOW (told, or coined by COIN).");
        grants(full(), "the shortest", x -> x.word(0, 0), 1);
        grants(full(), "the longest", x -> x.word(5, 0), 8);
        grants(full(), "the first thing", x -> x.word(0, 1), 0);
        grants(full(), "the last thing", x -> x.word(11, 1), 5);
        grants(full(), "the last told", x -> x.word(7, 3), 1 << 25);
        grants(full(), "the first coined", x -> x.word(8, 3), bits("ij"));
        grants(full(), "all of eight letters", x -> x.word(5, 3), 255);
        grants(full(), "letters are gone", x -> x.word(5, 2), 0);
        grants(full(), "it may be said, though", x -> x.word(5, 4), 1);
        grants(full(), "the last told may be", x -> x.word(7, 4), 1);
        grants(full(), "the first coined may not", x -> x.word(8, 4), 0);
        grants(() -> coinAll(Check.told(FULL)), "coined", x -> x.word(11, 4), 1);
        grants(() -> coinAll(Check.told(FULL)), "coined", x -> x.word(11, 2), 1);
        grants(() -> without(coinAll(Check.told(FULL)), "j"), "coined, a letter gone", x -> x.word(11, 2), 0);
        grants(() -> without(coinAll(Check.told(FULL)), "j"), "it may be, though", x -> x.word(11, 4), 1);
        grants(told(BARE + ";word aaaaaaaa means a"), "a letter eight times", x -> x.word(0, 3), 1);
        sentence("Promise 7", "NONE: 1.");
        for (int what = 0; what <= 4; what++) {
            int asked = what;
            bounds(full(), "word by " + what, (x, w) -> x.word(w, asked), 0, 11, 1);
        }
        bounds(full(), "what of a word", (x, what) -> x.word(5, what), 0, 4, 1);
        refuses(told(BARE), "of no words", x -> x.word(0, 0), 1);
        isNoTongue("word", x -> x.word(0, 0));
    }

    private static void thing() {
        sentence("Promise 8", "Of a thing 0 the SHORTEST word (-2), 1 how long it is (-2), 2 words that mean it and can be SAID, as bits, 3 how many of these.");
        grants(full(), "it can't be said", x -> x.thing(5, 0), -2);
        grants(full(), "it can't be said", x -> x.thing(5, 1), -2);
        grants(full(), "it can't be said", x -> x.thing(5, 2), 0);
        grants(full(), "it can't be said", x -> x.thing(5, 3), 0);
        grants(full(), "the first word", x -> x.thing(0, 0), 0);
        grants(full(), "one letter", x -> x.thing(0, 1), 1);
        grants(full(), "two words", x -> x.thing(0, 2), 1 + 64);
        grants(full(), "two words", x -> x.thing(0, 3), 2);
        Supplier<GapLetter> coined = () -> coinAll(Check.told(FULL));
        grants(coined, "the last word", x -> x.thing(5, 0), 11);
        grants(coined, "its length", x -> x.thing(5, 1), 3);
        grants(coined, "its bit", x -> x.thing(5, 2), 1 << 11);
        grants(() -> allFound(Check.told(FULL)), "eight letters", x -> x.thing(5, 1), 8);
        sentence("Promise 8", "NONE: 1.");
        for (int what = 0; what <= 3; what++) {
            int asked = what;
            bounds(full(), "thing by " + what, (x, t) -> x.thing(t, asked), 0, 5, 1);
        }
        bounds(full(), "what of a thing", (x, what) -> x.thing(0, what), 0, 3, 1);
        isNoTongue("thing", x -> x.thing(0, 0));
    }

    private static void saying() {
        sentence("Promise 9", "How long a saying is; -2 it can't be SAID.");
        grants(full(), "the shortest", x -> x.saying(0), 1);
        grants(full(), "it can't be", x -> x.saying(4), -2);
        grants(() -> allFound(Check.told(FULL)), "the longest", x -> x.saying(4), 35);
        sentence("Promise 9", "NONE: 1.");
        bounds(full(), "saying", GapLetter::saying, 0, 4, 1);
        refuses(told(BARE), "of no sayings", x -> x.saying(0), 1);
        isNoTongue("saying", x -> x.saying(0));
    }

    private static void dumbIn() {
        sentence("Promise 10", "The first thing in it that can't be SAID (its place in it, from 0 on); -2.");
        grants(full(), "at its first place", x -> x.dumbIn(4), 0);
        grants(() -> without(Check.told(FULL), "q"), "at its last place", x -> x.dumbIn(3), 3);
        grants(() -> without(Check.told(FULL), "qo"), "the first of two", x -> x.dumbIn(3), 2);
        grants(full(), "none", x -> x.dumbIn(3), -2);
        sentence("Promise 10", "NONE: 1.");
        bounds(full(), "dumbIn", GapLetter::dumbIn, 0, 4, 1);
        refuses(told(BARE), "of no sayings", x -> x.dumbIn(0), 1);
        isNoTongue("dumbIn", x -> x.dumbIn(0));
    }

    private static void said() {
        sentence("Promise 11", "Things that can be SAID, as bits.");
        grants(told(BARE), "none", GapLetter::said, 0);
        grants(full(), "all but the last", GapLetter::said, 31);
        grants(() -> allFound(Check.told(FULL)), "all", GapLetter::said, 63);
        grants(() -> without(Check.told(FULL), "k"), "all but the first and the last", GapLetter::said, 30);
        grants(() -> onlyLeft(Check.told(FULL), ""), "none", GapLetter::said, 0);
        sentence("Promise 11", "NONE: 1 (no TONGUE).");
        isNoTongue("said", GapLetter::said);
    }

    private static void longest() {
        sentence("Promise 12", "The longest of the SHORTEST words, of like ones the least number of a word; -2 nothing can be SAID.");
        grants(full(), "of like ones", GapLetter::longest, 3);
        grants(() -> without(Check.told(FULL), "q"), "the other one", GapLetter::longest, 4);
        grants(() -> allFound(Check.told(FULL)), "the longest", GapLetter::longest, 5);
        grants(told(BARE + ";thing b;word xy means b;word pq means a"), "the least number", GapLetter::longest, 0);
        grants(told(BARE + ";word xyz means a;word q means a"), "of the shortest", GapLetter::longest, 1);
        grants(() -> coinAll(onlyLeft(Check.told(FULL), "ij")), "coined ones of three letters", GapLetter::longest, 10);
        grants(told(BARE), "nothing", GapLetter::longest, -2);
        grants(() -> onlyLeft(Check.told(FULL), ""), "nothing more", GapLetter::longest, -2);
        sentence("Promise 12", "NONE: 1 (no TONGUE).");
        isNoTongue("longest", GapLetter::longest);
    }

    private static void users() {
        sentence("Promise 13", "How many words that can be SAID have a letter (0 a to 25 z).");
        String twelve = BARE + ";word ka means a;word kb means a;word kc means a;word kd means a;word ke means a;word kf means a"
                + ";word kg means a;word kh means a;coined ki means a;coined kj means a;coined az means a;coined zk means a";
        grants(told(twelve), "told ones", x -> x.users(letter('k')), 8);
        grants(() -> coinAll(Check.told(twelve)), "coined ones, too", x -> x.users(letter('k')), 11);
        grants(() -> coinAll(Check.told(twelve)), "a", x -> x.users(A), 2);
        grants(() -> coinAll(Check.told(twelve)), "z", x -> x.users(Z), 2);
        grants(() -> without(coinAll(Check.told(twelve)), "a"), "those that can be said", x -> x.users(Z), 1);
        grants(() -> without(Check.told(twelve), "k"), "a letter gone", x -> x.users(letter('k')), 0);
        grants(told(BARE + ";word kkkkkkkk means a"), "a word once", x -> x.users(letter('k')), 1);
        sentence("Promise 13", "NONE: 1 (no TONGUE); 2.");
        isNoTongue("users", x -> x.users(0));
        isNoTongue("users of no letter", x -> x.users(26));
        bounds(full(), "users", GapLetter::users, 0, 25, 2);
    }

    private static void saidIf() {
        sentence("Promise 14", "Things that could be SAID, were a letter gone too (or found, if it is), as bits.");
        grants(full(), "a letter of none", x -> x.saidIf(letter('g')), 31);
        grants(full(), "a letter of the first", x -> x.saidIf(letter('k')), 30);
        grants(full(), "z isn't needed", x -> x.saidIf(Z), 31);
        grants(() -> without(Check.told(FULL), "l"), "z is needed", x -> x.saidIf(Z), 29);
        grants(full(), "a is found, d isn't", x -> x.saidIf(A), 31);
        grants(() -> {
            GapLetter x = Check.told(FULL);
            x.find(letter('d'));
            return x;
        }, "a is found, too", x -> x.saidIf(A), 63);
        grants(told(BARE), "nothing", x -> x.saidIf(A), 0);
        GapLetter x = Check.told(FULL);
        x.saidIf(A);
        x.saidIf(letter('k'));
        due("nothing is lost or found", x.gone(), bits("ad"));
        sentence("Promise 14", "NONE: 1 (no TONGUE); 2.");
        isNoTongue("saidIf", y -> y.saidIf(0));
        isNoTongue("saidIf of no letter", y -> y.saidIf(-1));
        bounds(full(), "saidIf", GapLetter::saidIf, 0, 25, 2);
    }

    /** A saying by one word, b, which goes on some day of the year. */
    private static Supplier<GapLetter> goesOn(int year, int day, int daysAhead, boolean found) {
        return () -> {
            GapLetter x = Check.told("tongue year " + year + ";thing a;word b means a;saying s of a;gone b day " + day);
            for (int left = daysAhead; left > 0; left -= 99) {
                x.days(Math.min(99, left));
            }
            if (found) {
                due("find b", x.find(1), true);
            }
            return x;
        };
    }

    private static void lasts() {
        sentence("Promise 15", "The day from NOW on (0 .. 99 more) on which, letters going by DAYS, a saying can't be SAID first (0: NOW); -2 none.");
        grants(goesOn(99, 0, 0, false), "now", x -> x.lasts(0), 0);
        grants(goesOn(99, 0, 0, true), "found on its day: a year more", x -> x.lasts(0), 99);
        grants(goesOn(99, 99, 0, true), "day 99 is day 0 of the year", x -> x.lasts(0), 99);
        grants(goesOn(99, 98, 0, false), "on the year's last day", x -> x.lasts(0), 98);
        grants(goesOn(99, 1, 0, false), "on the next day", x -> x.lasts(0), 1);
        grants(goesOn(1, 57, 0, true), "a year of one day", x -> x.lasts(0), 1);
        grants(goesOn(10, 99, 0, false), "the rest of 99 by 10", x -> x.lasts(0), 9);
        grants(goesOn(10, 99, 9, true), "found on that day", x -> x.lasts(0), 10);
        grants(goesOn(99, 8, 999, true), "from day 999 on", x -> x.lasts(0), 98);
        grants(told(BARE + ";word b means a;saying s of a;gone c day 0"), "none", x -> x.lasts(0), -2);
        grants(told(BARE + ";saying s of a"), "never", x -> x.lasts(0), 0);
        GapLetter x = goesOn(10, 3, 0, false).get();
        x.lasts(0);
        due("no day goes by", x.size(8) + x.gone(), 0);
        sentence("Promise 15", "NONE: 1.");
        bounds(full(), "lasts", GapLetter::lasts, 0, 4, 1);
        refuses(told(BARE), "of no sayings", y -> y.lasts(0), 1);
        isNoTongue("lasts", y -> y.lasts(0));
    }

    private static void saidOn() {
        sentence("Promise 16", "Things that can be SAID so many days (0 .. 99) from NOW on, letters going by DAYS, as bits.");
        grants(goesOn(99, 0, 0, true), "now", x -> x.saidOn(0), 1);
        grants(goesOn(99, 0, 0, true), "98 days on", x -> x.saidOn(98), 1);
        grants(goesOn(99, 0, 0, true), "99 days on", x -> x.saidOn(99), 0);
        grants(goesOn(99, 1, 0, false), "a day on", x -> x.saidOn(1), 0);
        grants(goesOn(99, 1, 0, false), "it stays gone", x -> x.saidOn(99), 0);
        grants(goesOn(1, 0, 0, true), "a year of one day, now", x -> x.saidOn(0), 1);
        grants(goesOn(1, 0, 0, true), "a year of one day, a day on", x -> x.saidOn(1), 0);
        grants(goesOn(10, 99, 9, true), "9 days on", x -> x.saidOn(9), 1);
        grants(goesOn(10, 99, 9, true), "10 days on", x -> x.saidOn(10), 0);
        GapLetter x = goesOn(10, 3, 0, false).get();
        x.saidOn(99);
        due("no day goes by", x.size(8) + x.gone(), 0);
        sentence("Promise 16", "NONE: 1 (no TONGUE); 2.");
        isNoTongue("saidOn", y -> y.saidOn(0));
        isNoTongue("saidOn of no number", y -> y.saidOn(100));
        bounds(full(), "saidOn", GapLetter::saidOn, 0, 99, 2);
    }

    private static void longestSaying() {
        sentence("Promise 17", "The longest saying that can be SAID, the first such; -2 none can.");
        grants(full(), "the longest that can", GapLetter::longestSaying, 3);
        grants(() -> allFound(Check.told(FULL)), "the last", GapLetter::longestSaying, 4);
        grants(() -> without(Check.told(FULL), "lz"), "the first alone", GapLetter::longestSaying, 0);
        grants(told(BARE + ";word b means a;saying s of a,a;saying t of a,a;saying u of a"), "of like ones",
                GapLetter::longestSaying, 0);
        grants(() -> without(Check.told(FULL), "k"), "none can", GapLetter::longestSaying, -2);
        grants(told(BARE + ";word b means a"), "there is none", GapLetter::longestSaying, -2);
        sentence("Promise 17", "NONE: 1 (no TONGUE).");
        isNoTongue("longestSaying", GapLetter::longestSaying);
    }

    private static void lettersOf() {
        sentence("Promise 18", "Letters that are in all words of a thing that can be SAID, as bits; 0 it can't be.");
        grants(full(), "it can't be", x -> x.lettersOf(5), 0);
        grants(() -> allFound(Check.told(FULL)), "of one word", x -> x.lettersOf(5), 255);
        grants(() -> coinAll(allFound(Check.told(FULL))), "none in both", x -> x.lettersOf(5), 0);
        grants(full(), "one in both", x -> x.lettersOf(0), bits("k"));
        grants(told(BARE + ";word az means a"), "a, z", x -> x.lettersOf(0), bits("az"));
        grants(told(BARE + ";word az means a;coined z means a"), "not coined", x -> x.lettersOf(0), bits("az"));
        grants(() -> coinAll(Check.told(BARE + ";word az means a;coined z means a")), "coined", x -> x.lettersOf(0), bits("z"));
        grants(told(BARE), "no word", x -> x.lettersOf(0), 0);
        sentence("Promise 18", "NONE: 1.");
        bounds(full(), "lettersOf", GapLetter::lettersOf, 0, 5, 1);
        isNoTongue("lettersOf", x -> x.lettersOf(0));
    }

    private static void rhymes() {
        sentence("Promise 19", "Words that can be SAID, besides, and end with the same letters, so many (1 .. 8), as bits;");
        String text = BARE + ";word abcdefgh means a;word zbcdefgh means a;word h means a;word gh means a;coined cdefgh means a"
                + ";word hg means a";
        grants(told(text), "one letter", x -> x.rhymes(0, 1), 2 + 4 + 8);
        grants(told(text), "two letters", x -> x.rhymes(0, 2), 2 + 8);
        grants(told(text), "six letters", x -> x.rhymes(0, 6), 2);
        grants(() -> coinAll(Check.told(text)), "six letters, coined", x -> x.rhymes(0, 6), 2 + 32);
        grants(told(text), "seven letters", x -> x.rhymes(0, 7), 2);
        grants(told(text), "eight letters", x -> x.rhymes(0, 8), 0);
        grants(told(text), "of one that isn't coined", x -> x.rhymes(5, 6), 1 + 2);
        grants(() -> without(Check.told(text), "a"), "of one that can't be said", x -> x.rhymes(0, 7), 2);
        grants(() -> without(Check.told(text), "a"), "to one that can't be said", x -> x.rhymes(1, 7), 0);
        grants(told(BARE + ";word ab means a;word ac means a;word az means a;word ay means a"), "other letters", x -> x.rhymes(0, 1), 0);
        grants(told(BARE + ";word bx means a;word cx means a;word bbx means a"), "other letters", x -> x.rhymes(0, 2), 4);
        sentence("Promise 19", "those shorter than so many aside, itself, too: 0 then.");
        grants(told(text), "a letter", x -> x.rhymes(2, 1), 1 + 2 + 8);
        grants(told(text), "more than it has", x -> x.rhymes(2, 2), 0);
        grants(told(text), "far more than it has", x -> x.rhymes(2, 8), 0);
        grants(told(text), "as many as it has", x -> x.rhymes(3, 2), 1 + 2);
        grants(told(BARE + ";word aa means a;word a means a"), "shorter ones", x -> x.rhymes(0, 2), 0);
        sentence("Promise 19", "NONE: 1; 2.");
        bounds(told(text), "rhymes of a word", (x, w) -> x.rhymes(w, 1), 0, 5, 1);
        bounds(full(), "rhymes of a word", (x, w) -> x.rhymes(w, 8), 0, 11, 1);
        bounds(told(text), "rhymes of letters", (x, letters) -> x.rhymes(0, letters), 1, 8, 2);
        bounds(told(text), "rhymes of letters, of a short one", (x, letters) -> x.rhymes(2, letters), 1, 8, 2);
        refuses(full(), "no word, no number", x -> x.rhymes(12, 9), 1);
        isNoTongue("rhymes", x -> x.rhymes(0, 1));
    }
}
