import java.io.IOException;
import java.util.ArrayList;
import java.util.List;
import java.util.function.Supplier;

/** Promises 34 to 43, and the terms they rest on, at their boundaries: the game, chance, draws. */
public final class GameBoundaryTest extends Boundary {
    /** Eleven words that only the twelfth, the last coined, may stand behind. */
    private static final String DEAD_END = BARE + ";word xaq means a;word xbq means a;word xcq means a;word xdq means a"
            + ";word xeq means a;word xfq means a;word xgq means a;word xhq means a;coined xiq means a;coined xjq means a"
            + ";coined xkq means a;coined qz means a";

    private GameBoundaryTest() {
    }

    public static void main(String[] args) throws IOException {
        begin("GameBoundaryTest");
        game();
        gameNow();
        wins();
        opening();
        answer();
        longestChain();
        answers();
        chance();
        yet();
        mean();
        draws();
        silence();
        saidBehind();
        goesAt();
        end(34, 43);
    }

    private static Supplier<GapLetter> bare(String lines) {
        return told(BARE + lines);
    }

    /** So many words that may each stand behind each; those from the ninth on are coined. */
    private static Supplier<GapLetter> ring(int count) {
        StringBuilder text = new StringBuilder(BARE);
        for (int i = 0; i < count; i++) {
            text.append(i < 8 ? ";word k" : ";coined k").append((char) ('a' + i)).append("k means a");
        }
        return () -> coinAll(Check.told(text.toString()));
    }

    private static Supplier<GapLetter> deadEnd() {
        return () -> coinAll(Check.told(DEAD_END));
    }

    private static void game() {
        sentence("Terms III", "no word twice: who can't say one loses.");
        grants(ring(1), "one word alone", x -> x.wins(0), 1);
        grants(ring(2), "one behind the other", x -> x.wins(0), 0);
        grants(bare(";word k means a"), "one letter, not twice", x -> x.wins(0), 1);
        grants(bare(";word k means a;word kk means a"), "an answer to it", x -> x.wins(0), 0);
        grants(bare(";word k means a;word kk means a"), "one letter as an answer", x -> x.wins(1), 0);
        grants(bare(";word ab means a;word ba means a;word bb means a"), "ab, ba, then ab is said", x -> x.wins(0), 0);
        grants(bare(";word ab means a;word ba means a;word bb means a"), "bb, ba, ab, then both are said", x -> x.wins(2), 1);
        sentence("Terms III", "A word WINS if who begins with it wins, both playing best.");
        grants(bare(";word ab means a;word bc means a;word bd means a;word ce means a"), "there is a better answer", x -> x.wins(0), 0);
        grants(bare(";word ab means a;word bc means a;word ce means a"), "the only answer loses", x -> x.wins(0), 1);
    }

    private static void gameNow() {
        sentence("Terms III", "one says a word that can be SAID NOW (told or coined by COIN)");
        GapLetter x = Check.told(BARE + ";word aba means a;word aca means a;word ada means a;coined aea means a;coined afg means a");
        three(x);
        x.lose(letter('d'));
        due("two: wins", x.wins(0), 0);
        due("two: answer", x.answer(0), 1);
        due("two: in a row", x.longestChain(), 2);
        due("two: answers", x.answers(0), 1);
        x.coin(0);
        three(x);
        x.find(letter('d'));
        due("four: wins", x.wins(0), 0);
        due("four: in a row", x.longestChain(), 4);
        due("four: opening", x.opening(), -2);
        x.mark();
        x.coin(1);
        due("a dead end: wins", x.wins(0), 0);
        due("a dead end: answer", x.answer(0), 4);
        due("a dead end: opening", x.opening(), 4);
        due("a dead end: in a row", x.longestChain(), 5);
        x.back(0);
        due("without it: opening", x.opening(), -2);
        due("without it: in a row", x.longestChain(), 4);
        onlyLeft(x, "");
        due("none: opening", x.opening(), -2);
        due("none: in a row", x.longestChain(), 0);
    }

    private static void three(GapLetter x) {
        due("three: wins", x.wins(0), 1);
        due("three: answer", x.answer(0), -2);
        due("three: opening", x.opening(), 0);
        due("three: in a row", x.longestChain(), 3);
        due("three: answers", x.answers(0), 2);
    }

    private static void wins() {
        sentence("Promise 34", "1 if a word WINS, else 0.");
        for (int count = 1; count <= 12; count++) {
            int last = count - 1;
            grants(ring(count), "one of " + count, x -> x.wins(last), count % 2);
        }
        grants(deadEnd(), "the first loses", x -> x.wins(0), 0);
        grants(deadEnd(), "the last wins", x -> x.wins(11), 1);
        grants(() -> without(Check.told(DEAD_END), "a"), "the last isn't coined", x -> x.wins(1), 1);
        sentence("Promise 34", "NONE: 1; 5 (it can't be SAID NOW).");
        bounds(deadEnd(), "wins", GapLetter::wins, 0, 11, 1);
        refuses(told(DEAD_END), "not coined", x -> x.wins(11), 5);
        refuses(() -> without(Check.told(DEAD_END), "h"), "a letter gone", x -> x.wins(7), 5);
        refuses(bare(""), "of no words", x -> x.wins(0), 1);
        isNoTongue("wins", x -> x.wins(0));
    }

    private static void opening() {
        sentence("Promise 35", "The first word that WINS; -2 none.");
        grants(deadEnd(), "the last", GapLetter::opening, 11);
        grants(told(DEAD_END), "the first", GapLetter::opening, 0);
        grants(() -> without(Check.told(DEAD_END), "a"), "the first can't be said", GapLetter::opening, 1);
        grants(ring(11), "of eleven", GapLetter::opening, 0);
        grants(ring(12), "none of twelve", GapLetter::opening, -2);
        grants(bare(""), "no word", GapLetter::opening, -2);
        grants(() -> onlyLeft(Check.told(FULL), ""), "no word more", GapLetter::opening, -2);
        sentence("Promise 35", "NONE: 1 (no TONGUE).");
        isNoTongue("opening", GapLetter::opening);
    }

    private static void answer() {
        sentence("Promise 36", "The best answer to a word (the first by which who says it wins, if they begin and no word was said but that one); -2 none.");
        grants(deadEnd(), "the last", x -> x.answer(0), 11);
        grants(deadEnd(), "none to the last", x -> x.answer(11), -2);
        grants(ring(12), "to the first", x -> x.answer(0), 1);
        grants(ring(12), "to the last", x -> x.answer(11), 0);
        grants(ring(11), "all lose", x -> x.answer(0), -2);
        grants(ring(1), "not itself", x -> x.answer(0), -2);
        grants(bare(";word xa means a;word ab means a;word bc means a;word ad means a;word ae means a"), "the first that wins",
                x -> x.answer(0), 3);
        grants(bare(";word ax means a;word xa means a"), "that one was said", x -> x.answer(0), 1);
        sentence("Promise 36", "NONE: 1; 5.");
        bounds(deadEnd(), "answer", GapLetter::answer, 0, 11, 1);
        refuses(told(DEAD_END), "not coined", x -> x.answer(8), 5);
        refuses(() -> without(Check.told(DEAD_END), "a"), "a letter gone", x -> x.answer(0), 5);
        isNoTongue("answer", x -> x.answer(0));
    }

    private static void longestChain() {
        sentence("Promise 37", "How many words one behind the other can be said by turns at most, the first one free.");
        grants(bare(""), "none", GapLetter::longestChain, 0);
        grants(() -> onlyLeft(Check.told(FULL), ""), "none more", GapLetter::longestChain, 0);
        for (int count = 1; count <= 12; count++) {
            grants(ring(count), "all of " + count, GapLetter::longestChain, count);
        }
        grants(told(DEAD_END), "no two", GapLetter::longestChain, 1);
        grants(deadEnd(), "two", GapLetter::longestChain, 2);
        grants(bare(";word cd means a;word bc means a;word ab means a"), "from the last one on", GapLetter::longestChain, 3);
        grants(bare(";word ab means a;word bc means a;word bd means a;word de means a"), "the longer way", GapLetter::longestChain, 3);
        sentence("Promise 37", "NONE: 1 (no TONGUE).");
        isNoTongue("longestChain", GapLetter::longestChain);
    }

    private static void answers() {
        sentence("Promise 38", "How many words that can be SAID a word can be answered by (that begin with its last letter, itself aside).");
        grants(ring(12), "eleven", x -> x.answers(11), 11);
        grants(ring(1), "itself aside", x -> x.answers(0), 0);
        grants(deadEnd(), "one", x -> x.answers(10), 1);
        grants(bare(";word abcdefgz means a;word z means a;word zbcdefgh means a"), "of one letter, of eight", x -> x.answers(0), 2);
        grants(bare(";word abcdefgz means a;word z means a;word zbcdefgh means a"), "of eight to one", x -> x.answers(1), 1);
        grants(deadEnd(), "none", x -> x.answers(11), 0);
        grants(told(DEAD_END), "it isn't coined", x -> x.answers(0), 0);
        grants(() -> without(Check.told(BARE + ";word ab means a;word bc means a;word bd means a"), "d"), "one can't be said",
                x -> x.answers(0), 1);
        sentence("Promise 38", "NONE: 1; 5.");
        bounds(deadEnd(), "answers", GapLetter::answers, 0, 11, 1);
        refuses(told(DEAD_END), "not coined", x -> x.answers(11), 5);
        refuses(() -> without(Check.told(DEAD_END), "q"), "a letter gone", x -> x.answers(0), 5);
        isNoTongue("answers", x -> x.answers(0));
    }

    private static void odds(Supplier<GapLetter> made, int n, long upper, long lower) {
        grants(made, "upper by " + n, x -> x.yet(0, n, false), upper);
        grants(made, "lower by " + n, x -> x.yet(0, n, true), lower);
    }

    private static void chance() {
        sentence("Terms III", "BY CHANCE n letters (0 .. 3) of those not gone NOW go, each set as likely.");
        odds(bare(";word a means a"), 0, 1, 1);
        odds(bare(";word a means a"), 1, 25, 26);
        odds(bare(";word z means a"), 2, 12, 13);
        odds(bare(";word z means a"), 3, 23, 26);
        odds(bare(";word abcdefgh means a"), 1, 9, 13);
        odds(bare(";word abcdefgh means a"), 3, 102, 325);
        odds(bare(";word a means a;word z means a"), 3, 322, 325);
        odds(bare(";word a means a;gone b day 0"), 1, 24, 25);
    }

    private static void yet() {
        sentence("Promise 39", "the upper WHOLE or the lower, in lowest terms (0 by 1).");
        odds(bare(""), 0, 0, 1);
        odds(bare(""), 1, 0, 1);
        odds(bare(""), 3, 0, 1);
        odds(() -> onlyLeft(Check.told(BARE + ";word z means a"), "xyz"), 0, 1, 1);
        odds(() -> onlyLeft(Check.told(BARE + ";word z means a"), "xyz"), 1, 2, 3);
        odds(() -> onlyLeft(Check.told(BARE + ";word z means a"), "xyz"), 2, 1, 3);
        odds(() -> onlyLeft(Check.told(BARE + ";word z means a"), "xyz"), 3, 0, 1);
        odds(bare(";word a means a;word b means a;word c means a;word d means a"), 3, 1, 1);
        odds(() -> onlyLeft(Check.told(BARE), ""), 0, 0, 1);
        grants(full(), "the last thing", x -> x.yet(5, 3, false), 0);
        sentence("Promise 39", "-1: 1; 2 (so many letters aren't left, too).");
        bounds(full(), "yet of a thing", (x, t) -> x.yet(t, 3, true), 0, 5, 1);
        bounds(full(), "yet of a thing", (x, t) -> x.yet(t, 0, false), 0, 5, 1);
        bounds(full(), "yet behind n", (x, n) -> x.yet(5, n, true), 0, 3, 2);
        bounds(full(), "yet behind n", (x, n) -> x.yet(0, n, false), 0, 3, 2);
        String left = "";
        for (int most = 0; most <= 3; most++) {
            String these = left;
            bounds(() -> onlyLeft(Check.told(FULL), these), "yet with few left", (x, n) -> x.yet(0, n, true), 0, most, 2);
            left += (char) ('w' + most);
        }
        bounds(() -> onlyLeft(Check.told(FULL), "wxyz"), "yet with four left", (x, n) -> x.yet(0, n, true), 0, 3, 2);
        refuses(full(), "none such, no number", x -> x.yet(6, 4, true), 1);
        isNoTongue("yet", x -> x.yet(0, 0, true));
    }

    private static void mean() {
        sentence("Promise 40", "The mean of things that can be SAID behind n, likewise.");
        Supplier<GapLetter> six = told("tongue year 1;thing a;thing b;thing c;thing d;thing e;thing f;word a means a;word b means b"
                + ";word c means c;word d means d;word e means e;word z means f");
        long[][] due = {{6, 1}, {75, 13}, {72, 13}, {69, 13}};
        for (int n = 0; n <= 3; n++) {
            int many = n;
            grants(six, "upper by " + n, x -> x.mean(many, false), due[n][0]);
            grants(six, "lower by " + n, x -> x.mean(many, true), due[n][1]);
        }
        grants(bare(""), "none", x -> x.mean(3, false), 0);
        grants(bare(""), "by one", x -> x.mean(3, true), 1);
        grants(() -> onlyLeft(Check.told(FULL), ""), "none", x -> x.mean(0, false), 0);
        grants(() -> onlyLeft(Check.told(FULL), ""), "by one", x -> x.mean(0, true), 1);
        sentence("Promise 40", "-1: 1 (no TONGUE); 2.");
        isNoTongue("mean", x -> x.mean(0, true));
        isNoTongue("mean of no number", x -> x.mean(4, false));
        bounds(full(), "mean", (x, n) -> x.mean(n, false), 0, 3, 2);
        bounds(full(), "mean", (x, n) -> x.mean(n, true), 0, 3, 2);
        bounds(() -> onlyLeft(Check.told(FULL), "yz"), "mean with two left", (x, n) -> x.mean(n, true), 0, 2, 2);
        bounds(() -> onlyLeft(Check.told(FULL), ""), "mean with none left", (x, n) -> x.mean(n, true), 0, 0, 2);
    }

    /** Letters in the order in which they go, the seed being drawn by a long that can't wrap. */
    private static List<Integer> order(long seed, int gone) {
        List<Integer> left = new ArrayList<>();
        for (int at = A; at <= Z; at++) {
            if ((gone >> at & 1) == 0) {
                left.add(at);
            }
        }
        List<Integer> order = new ArrayList<>();
        long drawn = seed;
        while (!left.isEmpty()) {
            drawn = (75 * drawn + 74) % 65537;
            order.add(left.remove((int) (drawn % left.size())));
        }
        return order;
    }

    private static void draws() {
        sentence("Terms III", "LOSSES by a SEED: each a DRAW mod the letters not gone yet: that one (from 0 on) goes (SEED becomes (75 times SEED and 74) mod 65,537).");
        GapLetter x = Check.told(BARE);
        due("0 becomes 74: 22", x.goesAt(0, 1), letter('w'));
        due("74 becomes 5,624: 24 of 25", x.goesAt(0, 2), letter('z'));
        due("5,624 becomes 28,652: 20 of 24", x.goesAt(0, 3), letter('u'));
        due("65,536 stays: 16", x.goesAt(65536, 1), letter('q'));
        due("65,536 stays: 11 of 25", x.goesAt(65536, 2), letter('l'));
        due("65,536 stays: 16 of 24", x.goesAt(65536, 3), letter('s'));
        due("872 becomes 65,474", x.goesAt(872, 1), 65474 % 26);
        due("873 becomes 12", x.goesAt(873, 1), 12);
        due("a draw of 0", x.goesAt(seedThatBecomes(0), 1), A);
        due("a draw of 26", x.goesAt(seedThatBecomes(26), 1), A);
        due("a draw of 25", x.goesAt(seedThatBecomes(25), 1), Z);
        GapLetter y = Check.told(BARE + ";gone a day 0");
        due("the first not gone", y.goesAt(seedThatBecomes(25), 1), 1);
        due("the last not gone", y.goesAt(seedThatBecomes(24), 1), Z);
    }

    private static int seedThatBecomes(int drawn) {
        for (int seed = 0; seed <= 65536; seed++) {
            if ((75L * seed + 74) % 65537 == drawn) {
                return seed;
            }
        }
        throw new IllegalStateException("no seed becomes " + drawn);
    }

    private static void silence() {
        sentence("Promise 41", "LOSSES by a SEED (0 .. 65,536): behind how many (0 .. 26) nothing can be SAID first.");
        grants(bare(""), "at once", x -> x.silence(0), 0);
        grants(() -> onlyLeft(Check.told(FULL), ""), "all are gone", x -> x.silence(65536), 0);
        for (int seed : new int[] {0, 1, 12345, 65535, 65536}) {
            List<Integer> order = order(seed, 0);
            grants(bare(";word " + (char) ('a' + order.get(25)) + " means a"), "the last letter", x -> x.silence(seed), 26);
            grants(bare(";word " + (char) ('a' + order.get(24)) + " means a"), "the last but one", x -> x.silence(seed), 25);
            grants(bare(";word " + (char) ('a' + order.get(0)) + " means a"), "the first letter", x -> x.silence(seed), 1);
        }
        GapLetter x = Check.told(FULL);
        x.silence(0);
        due("nothing is lost", x.gone(), bits("ad"));
        sentence("Promise 41", "NONE: 1 (no TONGUE); 2.");
        isNoTongue("silence", y -> y.silence(0));
        isNoTongue("silence of no seed", y -> y.silence(65537));
        bounds(full(), "silence", GapLetter::silence, 0, 65536, 2);
    }

    private static void saidBehind() {
        sentence("Promise 42", "How many things can be SAID behind n of them (0 .. as many as are left).");
        List<Integer> order = order(77, 0);
        Supplier<GapLetter> two = told("tongue year 1;thing a;thing b;word " + (char) ('a' + order.get(25)) + " means a;word "
                + (char) ('a' + order.get(0)) + " means b");
        grants(two, "behind none", x -> x.saidBehind(77, 0), 2);
        grants(two, "behind one", x -> x.saidBehind(77, 1), 1);
        grants(two, "behind all but one", x -> x.saidBehind(77, 25), 1);
        grants(two, "behind all", x -> x.saidBehind(77, 26), 0);
        grants(full(), "five of six", x -> x.saidBehind(65536, 0), 5);
        GapLetter x = two.get();
        x.saidBehind(0, 26);
        due("nothing is lost", x.gone(), 0);
        sentence("Promise 42", "NONE: 1 (no TONGUE); 2.");
        isNoTongue("saidBehind", y -> y.saidBehind(0, 0));
        isNoTongue("saidBehind of no seed", y -> y.saidBehind(-1, 27));
        bounds(two, "saidBehind by a seed", (y, seed) -> y.saidBehind(seed, 26), 0, 65536, 2);
        bounds(two, "saidBehind of n", (y, n) -> y.saidBehind(0, n), 0, 26, 2);
        bounds(full(), "saidBehind of n, two gone", (y, n) -> y.saidBehind(65536, n), 0, 24, 2);
        bounds(() -> onlyLeft(Check.told(FULL), ""), "saidBehind of n, all gone", (y, n) -> y.saidBehind(0, n), 0, 0, 2);
    }

    private static void goesAt() {
        sentence("Promise 43", "The n-th letter that goes so (1 .. as many as are left).");
        for (int seed : new int[] {0, 4711, 65536}) {
            List<Integer> order = order(seed, 0);
            List<Integer> fewer = order(seed, bits("az"));
            for (int n = 1; n <= 26; n++) {
                int at = n;
                grants(bare(""), "letter " + n, x -> x.goesAt(seed, at), order.get(n - 1));
                if (n <= 24) {
                    grants(bare(";gone a day 0;gone z day 1"), "letter " + n, x -> x.goesAt(seed, at), fewer.get(n - 1));
                }
            }
        }
        grants(() -> onlyLeft(Check.told(BARE), "a"), "the only one", x -> x.goesAt(65536, 1), A);
        grants(() -> onlyLeft(Check.told(BARE), "z"), "the only one", x -> x.goesAt(0, 1), Z);
        GapLetter x = Check.told(BARE);
        x.goesAt(0, 26);
        due("nothing is lost", x.gone(), 0);
        sentence("Promise 43", "NONE: 1 (no TONGUE); 2.");
        isNoTongue("goesAt", y -> y.goesAt(0, 1));
        isNoTongue("goesAt of no seed", y -> y.goesAt(-1, 0));
        bounds(bare(""), "goesAt by a seed", (y, seed) -> y.goesAt(seed, 1), 0, 65536, 2);
        bounds(bare(""), "goesAt of n", (y, n) -> y.goesAt(0, n), 1, 26, 2);
        bounds(full(), "goesAt of n, two gone", (y, n) -> y.goesAt(65536, n), 1, 24, 2);
        refuses(() -> onlyLeft(Check.told(FULL), ""), "all gone", y -> y.goesAt(0, 0), 2);
        refuses(() -> onlyLeft(Check.told(FULL), ""), "all gone", y -> y.goesAt(0, 1), 2);
    }
}
