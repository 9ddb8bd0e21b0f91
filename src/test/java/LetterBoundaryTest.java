import java.io.IOException;
import java.util.function.Supplier;

/** Promises 20 to 33, and the terms they rest on, at their boundaries: which letter, losing, old words. */
public final class LetterBoundaryTest extends Boundary {
    private static final String FOUR = ";word a means a;word b means a;word c means a;word d means a";

    private LetterBoundaryTest() {
    }

    public static void main(String[] args) throws IOException {
        begin("LetterBoundaryTest");
        which();
        bill();
        billLeaves();
        judge();
        worstAndKindest();
        dumb();
        hinges();
        again();
        rarest();
        readings();
        ways();
        stoodOut();
        twins();
        end(20, 33);
    }

    private static Supplier<GapLetter> bare(String lines) {
        return told(BARE + lines);
    }

    private static void which() {
        sentence("Terms III", "letters (a to z) that are in no word heard and in each word shunned.");
        grants(bare(""), "nothing was heard", GapLetter::which, ALL);
        grants(bare(";heard a"), "all but a", GapLetter::which, ALL - 1);
        grants(bare(";heard z"), "all but z", GapLetter::which, ALL - (1 << 25));
        grants(bare(";shunned a"), "a", GapLetter::which, 1);
        grants(bare(";shunned z"), "z", GapLetter::which, 1 << 25);
        grants(bare(";shunned abcdefgh;shunned habc;heard b"), "in each shunned", GapLetter::which, bits("ach"));
        grants(bare(";shunned ab;shunned cd"), "in both is none", GapLetter::which, 0);
        grants(bare(";shunned ab;heard ba"), "heard and shunned", GapLetter::which, 0);
        grants(bare(";heard abcdefgh;heard ijklmnop;heard qrstuvwx;heard y"), "all but one", GapLetter::which, 1 << 25);
        grants(bare(";heard abcdefgh;heard ijklmnop;heard qrstuvwx;heard yz"), "all heard", GapLetter::which, 0);
        grants(bare(";heard a;gone b day 0"), "gone ones, too", GapLetter::which, ALL - 1);
        sentence("Promise 20", "WHICH, as bits.");
        grants(full(), "by six", GapLetter::which, bits("y"));
        grants(bare(""), "by none", GapLetter::which, ALL);
        sentence("Promise 20", "NONE: 1 (no TONGUE).");
        isNoTongue("which", GapLetter::which);
    }

    private static void bill() {
        sentence("Terms III", "BILL: the word told (word, not coined) by which, it being told whether that letter is in it, at most fewest are left, the first such.");
        String seven = ";shunned ab;word c means a;word d means a;word e means a;word f means a;word g means a;word h means a;word i means a";
        grants(bare(seven + ";word a means a"), "the last of eight", GapLetter::bill, 7);
        grants(bare(seven + ";word ab means a"), "of like ones", GapLetter::bill, 0);
        grants(() -> coinAll(Check.told(BARE + seven + ";coined a means a")), "not a coined one", GapLetter::bill, 0);
        grants(bare(";shunned abcd;word a means a;word bcd means a;word cd means a;word ab means a"), "halves",
                GapLetter::bill, 2);
        grants(bare(";shunned ab;word c means a;word a means a;gone a day 0"), "though it can't be said", GapLetter::bill, 1);
        sentence("Promise 21", "BILL; -2 none is left, no word.");
        grants(full(), "one is left", GapLetter::bill, 0);
        grants(bare(";heard a;shunned a;word a means a"), "none is left", GapLetter::bill, -2);
        grants(bare(""), "no word", GapLetter::bill, -2);
        grants(() -> coinAll(Check.told(BARE + ";coined a means a")), "no word but a coined one", GapLetter::bill, -2);
        grants(bare(";heard a;shunned a"), "neither", GapLetter::bill, -2);
        sentence("Promise 21", "NONE: 1 (no TONGUE).");
        isNoTongue("bill", GapLetter::bill);
    }

    private static void billLeaves() {
        sentence("Promise 22", "How many are left at most then; -2 likewise.");
        grants(bare(";word abcdefgh means a"), "of all", GapLetter::billLeaves, 18);
        grants(bare(";word a means a"), "all but one", GapLetter::billLeaves, 25);
        grants(bare(";shunned a;word b means a"), "the only one", GapLetter::billLeaves, 1);
        grants(bare(";shunned ab;word b means a"), "one of two", GapLetter::billLeaves, 1);
        grants(bare(";shunned ab;word c means a"), "both", GapLetter::billLeaves, 2);
        grants(bare(";shunned abcde;word abc means a"), "those in it", GapLetter::billLeaves, 3);
        grants(bare(";shunned abcde;word ab means a"), "those not in it", GapLetter::billLeaves, 3);
        grants(bare(";heard a;shunned a;word a means a"), "none is left", GapLetter::billLeaves, -2);
        grants(bare(""), "no word", GapLetter::billLeaves, -2);
        sentence("Promise 22", "NONE: 1 (no TONGUE).");
        isNoTongue("billLeaves", GapLetter::billLeaves);
    }

    private static void judge() {
        sentence("Promise 23", "The first heard, or shunned, as told, that isn't so of a letter; -2.");
        grants(full(), "the first heard", x -> x.judge(letter('k')), 0);
        grants(full(), "the last heard", x -> x.judge(letter('n')), 2);
        grants(full(), "the first shunned", x -> x.judge(Z), 3);
        grants(full(), "the last of all", x -> x.judge(A), 5);
        grants(full(), "it may be so", x -> x.judge(letter('y')), -2);
        grants(bare(""), "nothing heard", x -> x.judge(A), -2);
        grants(bare(";shunned a;heard b;shunned c"), "as told", x -> x.judge(A), 2);
        grants(bare(";shunned a;heard b;shunned c"), "as told", x -> x.judge(1), 0);
        sentence("Promise 23", "NONE: 1 (no TONGUE); 2.");
        isNoTongue("judge", x -> x.judge(0));
        isNoTongue("judge of no letter", x -> x.judge(26));
        bounds(full(), "judge", GapLetter::judge, 0, 25, 2);
    }

    private static void worstAndKindest() {
        sentence("Terms III", "WORST: the letter, not gone NOW, by which, gone too, least things can be SAID; KINDEST: by which most can; of like ones the first.");
        grants(bare(""), "all alike", GapLetter::worst, A);
        grants(bare(""), "all alike", GapLetter::kindest, A);
        grants(bare(";gone a day 0"), "the first is gone", GapLetter::worst, 1);
        grants(bare(";gone a day 0"), "the first is gone", GapLetter::kindest, 1);
        grants(bare(";thing b;word z means a;word yz means b"), "z", GapLetter::worst, Z);
        grants(bare(";thing b;word z means a;word yz means b"), "a", GapLetter::kindest, A);
        grants(bare(";word ab means a"), "of like ones", GapLetter::worst, A);
        grants(bare(";word ab means a"), "the first not in it", GapLetter::kindest, 2);
        grants(bare(";thing b;word c means a;word cd means a;word ce means a;word f means b;word g means b"),
                "things count, not words", GapLetter::worst, 2);
        grants(bare(";word c means a;word d means a"), "no thing goes by one", GapLetter::worst, A);
        sentence("Promise 24", "WORST; -2 all are gone.");
        grants(() -> onlyLeft(Check.told(FULL), "z"), "one is left", GapLetter::worst, Z);
        grants(() -> onlyLeft(Check.told(FULL), ""), "all are gone", GapLetter::worst, -2);
        sentence("Promise 24", "NONE: 1 (no TONGUE).");
        isNoTongue("worst", GapLetter::worst);
        sentence("Promise 25", "KINDEST; -2.");
        grants(() -> onlyLeft(Check.told(FULL), "z"), "one is left", GapLetter::kindest, Z);
        grants(() -> onlyLeft(Check.told(FULL), ""), "all are gone", GapLetter::kindest, -2);
        sentence("Promise 25", "NONE: 1 (no TONGUE).");
        isNoTongue("kindest", GapLetter::kindest);
    }

    private static void dumb() {
        sentence("Terms III", "DUMB: the fewest letters not gone NOW (3 at most) by which, gone too, nothing can be SAID: of like ones the first by letters, one by one.");
        grants(bare(";word z means a"), "one", GapLetter::dumb, bits("z"));
        grants(bare(";word y means a;word z means a"), "two", GapLetter::dumb, bits("yz"));
        grants(bare(";word x means a;word y means a;word z means a"), "three", GapLetter::dumb, bits("xyz"));
        grants(bare(";word az means a;word bz means a"), "fewest, not first", GapLetter::dumb, bits("z"));
        grants(bare(";word zb means a;word zc means a;word ab means a"), "by letters, not by bits", GapLetter::dumb, bits("az"));
        grants(bare(";word ab means a;word bc means a;word cd means a;word de means a"), "of like ones", GapLetter::dumb, bits("bd"));
        sentence("Promise 26", "DUMB, as bits; -2 three aren't enough.");
        grants(bare(""), "it is so", GapLetter::dumb, 0);
        grants(() -> onlyLeft(Check.told(FULL), ""), "all are gone", GapLetter::dumb, 0);
        grants(bare(FOUR), "four are needed", GapLetter::dumb, -2);
        grants(bare(FOUR + ";gone a day 0"), "three are", GapLetter::dumb, bits("bcd"));
        grants(() -> onlyLeft(Check.told(BARE + FOUR), "abcd"), "four are left and needed", GapLetter::dumb, -2);
        grants(() -> onlyLeft(Check.told(BARE + FOUR), "bd"), "all that are left", GapLetter::dumb, bits("bd"));
        sentence("Promise 26", "NONE: 1 (no TONGUE).");
        isNoTongue("dumb", GapLetter::dumb);
    }

    private static void hinges() {
        sentence("Promise 27", "Letters not gone NOW by which, gone too, a saying that can be SAID can't, as bits.");
        grants(bare(";word az means a;saying s of a"), "the first and the last letter", x -> x.hinges(0), bits("az"));
        grants(bare(";word az means a;word b means a;saying s of a"), "none", x -> x.hinges(0), 0);
        grants(full(), "of two words", x -> x.hinges(0), bits("k"));
        grants(full(), "of four things", x -> x.hinges(3), bits("knopqrst"));
        grants(() -> without(Check.told(FULL), "m"), "one word is gone", x -> x.hinges(1), bits("kz"));
        sentence("Promise 27", "NONE: 1; 5 (it can't be SAID).");
        bounds(() -> {
            GapLetter x = Check.told(FULL);
            x.find(A);
            x.find(letter('d'));
            return x;
        }, "hinges", GapLetter::hinges, 0, 4, 1);
        refuses(full(), "it can't be said", x -> x.hinges(4), 5);
        refuses(() -> without(Check.told(FULL), "k"), "it can't be said", x -> x.hinges(0), 5);
        refuses(full(), "none such, nor said", x -> x.hinges(5), 1);
        refuses(bare(""), "of no sayings", x -> x.hinges(0), 1);
        isNoTongue("hinges", x -> x.hinges(0));
    }

    private static void again() {
        sentence("Terms III", "AGAIN: the fewest coined words, not coined yet, by which all things can be SAID NOW: of like ones the least bits.");
        String four = "tongue year 1;thing a;thing b;thing c;thing d;coined p means a;coined q means b;coined r means c;coined s means d";
        grants(told(four), "all four", GapLetter::again, 15);
        grants(() -> coinLast(Check.told(four)), "not those coined", GapLetter::again, 7);
        grants(told("tongue year 1;thing a;thing b;coined p means a;coined q means b;coined r means a;coined s means b"),
                "of like ones", GapLetter::again, 3);
        grants(() -> without(Check.told("tongue year 1;thing a;thing b;coined p means a;coined q means b;coined r means a;coined s means b"),
                "p"), "one can't be said", GapLetter::again, 2 + 4);
        grants(bare(";coined p means a;coined q means a;gone p day 0"), "the one that can be said", GapLetter::again, 2);
        sentence("Promise 28", "AGAIN, as bits (the first coined one: 1); -2 all aren't enough.");
        grants(bare(";coined p means a"), "the first", GapLetter::again, 1);
        grants(bare(";word p means a;coined q means a"), "none is needed", GapLetter::again, 0);
        grants(() -> coinAll(Check.told(four)), "none is left, none needed", GapLetter::again, 0);
        grants(bare(""), "there is none", GapLetter::again, -2);
        grants(bare(";coined p means a;gone p day 0"), "it can't be said", GapLetter::again, -2);
        grants(() -> without(coinAll(Check.told(four)), "p"), "all are coined, not enough", GapLetter::again, -2);
        grants(full(), "the last of four", GapLetter::again, 8);
        sentence("Promise 28", "NONE: 1 (no TONGUE).");
        isNoTongue("again", GapLetter::again);
    }

    private static GapLetter coinLast(GapLetter x) {
        x.coin(x.size(4) - 1);
        return x;
    }

    private static void rarest() {
        sentence("Promise 29", "The thing with fewest words that can be SAID, of those that can, the first such; -2 none can.");
        grants(full(), "the first such", GapLetter::rarest, 2);
        grants(() -> coinAll(Check.told(FULL)), "the last", GapLetter::rarest, 5);
        grants(bare(";thing b;word c means b;word d means b"), "those that can", GapLetter::rarest, 1);
        grants(bare(";thing b;word c means b;word d means a"), "of like ones", GapLetter::rarest, 0);
        grants(bare(""), "none can", GapLetter::rarest, -2);
        grants(() -> onlyLeft(Check.told(FULL), ""), "none can any more", GapLetter::rarest, -2);
        StringBuilder twelve = new StringBuilder(BARE);
        for (int i = 0; i < 12; i++) {
            twelve.append(i < 8 ? ";word " : ";coined ").append((char) ('a' + i)).append(" means a");
        }
        grants(() -> coinAll(Check.told(twelve.toString())), "all words mean it", GapLetter::rarest, 0);
        sentence("Promise 29", "NONE: 1 (no TONGUE).");
        isNoTongue("rarest", GapLetter::rarest);
    }

    private static void readings() {
        sentence("Terms III", "words told (word, not coined) that become that old word if all of that letter stand out of them (there must be one in it).");
        String old = ";old b;word b means a;word xb means a;word xbx means a;word bb means a;coined bx means a;word xc means a";
        grants(bare(old), "one must be in it", x -> x.readings(0, letter('x')), 2 + 4);
        grants(() -> coinAll(Check.told(BARE + old)), "not coined ones", x -> x.readings(0, letter('x')), 2 + 4);
        grants(() -> without(Check.told(BARE + old), "xb"), "though they can't be said", x -> x.readings(0, letter('x')), 2 + 4);
        grants(bare(old), "nothing is left of b", x -> x.readings(0, 1), 0);
        grants(bare(";old a;old z;word az means a"), "by z", x -> x.readings(0, Z), 1);
        grants(bare(";old a;old z;word az means a"), "by a", x -> x.readings(1, A), 1);
        grants(bare(";old aa;word aza means a;word aaz means a;word za means a"), "as often", x -> x.readings(0, Z), 1 + 2);
        grants(bare(";old h;word aaaahaaa means a"), "seven stand out", x -> x.readings(0, A), 1);
        grants(bare(";old bcdefgh;word abcdefgh means a"), "seven are left", x -> x.readings(0, A), 1);
        grants(bare(";old abcdefg;word abcdefgz means a"), "the last stands out", x -> x.readings(0, Z), 1);
        grants(bare(";old bcdefg;word abcdefgz means a"), "the first stays", x -> x.readings(0, Z), 0);
        grants(bare(";old abcdefgh;word abcdefgh means a"), "none stands out", x -> x.readings(0, Z), 0);
        sentence("Promise 30", "READINGS of an old word by a letter (0 .. 25), as bits of words.");
        grants(told(eightWays()), "all eight words", x -> x.readings(4, letter('x')), 255);
        grants(full(), "the seventh word", x -> x.readings(0, letter('y')), 64);
        grants(full(), "the last old word", x -> x.readings(4, letter('o')), 4);
        grants(full(), "none", x -> x.readings(1, A), 0);
        sentence("Promise 30", "NONE: 1; 2.");
        bounds(full(), "readings of an old word", (x, k) -> x.readings(k, 0), 0, 4, 1);
        bounds(full(), "readings by a letter", (x, letter) -> x.readings(4, letter), 0, 25, 2);
        refuses(full(), "none such, no letter", x -> x.readings(5, 26), 1);
        refuses(bare(""), "of no old words", x -> x.readings(0, 0), 1);
        isNoTongue("readings", x -> x.readings(0, 0));
    }

    /** Eight words that each may be each of five old ones. */
    private static String eightWays() {
        return BARE + ";word xb means a;word bx means a;word xbx means a;word xxb means a;word bxx means a;word xxbx means a"
                + ";word xbxx means a;word xxxxxxxb means a;old b;old b;old b;old b;old b";
    }

    private static void ways() {
        sentence("Promise 31", "In how many ways all old words can be read by a letter.");
        grants(bare(""), "no old words", x -> x.ways(A), 1);
        grants(bare(""), "no old words", x -> x.ways(Z), 1);
        grants(told(eightWays()), "eight times five times", x -> x.ways(letter('x')), 8 * 8 * 8 * 8 * 8);
        grants(told(eightWays()), "in none", x -> x.ways(letter('b')), 0);
        grants(bare(";old b;old c;word xb means a;word bx means a;word b means a"), "one can't be read", x -> x.ways(letter('x')), 0);
        grants(bare(";old b;old c;word xb means a;word bx means a;word cx means a"), "two by one", x -> x.ways(letter('x')), 2);
        sentence("Promise 31", "NONE: 1 (no TONGUE); 2.");
        isNoTongue("ways", x -> x.ways(0));
        isNoTongue("ways of no letter", x -> x.ways(-1));
        bounds(full(), "ways", GapLetter::ways, 0, 25, 2);
        bounds(bare(""), "ways without old words", GapLetter::ways, 0, 25, 2);
    }

    private static void stoodOut() {
        sentence("Promise 32", "Letters by which all old words have READINGS, as bits (all 26, if there are none).");
        grants(bare(";word xb means a"), "no old words", GapLetter::stoodOut, ALL);
        grants(bare(";old b;word ab means a;word bz means a"), "a, z", GapLetter::stoodOut, bits("az"));
        grants(bare(";old b;old c;word ab means a;word bz means a;word cz means a"), "by which both have", GapLetter::stoodOut, bits("z"));
        grants(bare(";old b;word b means a"), "none", GapLetter::stoodOut, 0);
        grants(bare(";old b"), "no words", GapLetter::stoodOut, 0);
        sentence("Promise 32", "NONE: 1 (no TONGUE).");
        isNoTongue("stoodOut", GapLetter::stoodOut);
    }

    private static void twins() {
        sentence("Promise 33", "(in one of them it is, or in both), the first two: 10 times the lesser and the other one; -2 there are none.");
        String seven = ";word a means a;word b means a;word c means a;word d means a;word e means a;word f means a";
        grants(bare(seven + ";word gx means a;word g means a"), "the last two", x -> x.twins(letter('x')), 67);
        grants(bare(seven + ";word xa means a;word gg means a"), "the first and another", x -> x.twins(letter('x')), 6);
        grants(bare(seven + ";word gg means a;word xax means a"), "the first and the last", x -> x.twins(letter('x')), 7);
        grants(bare(";word gx means a;word xg means a"), "in both", x -> x.twins(letter('x')), 1);
        grants(bare(";word bz means a;word bc means a;word cb means a;word b means a"), "in one", x -> x.twins(Z), 3);
        grants(bare(";word ax means a;word b means a;word xb means a;word a means a"), "the lesser counts first",
                x -> x.twins(letter('x')), 3);
        grants(bare(";word abcdefgz means a;word bcdefgz means a;word abcdefg means a"), "of eight letters", x -> x.twins(Z), 2);
        grants(bare(";word aa means a;word a means a"), "nothing is left", x -> x.twins(A), 1);
        grants(bare(";word aa means a;word a means a"), "it is in none", x -> x.twins(Z), -2);
        grants(bare(";word a means a"), "one word", x -> x.twins(A), -2);
        grants(bare(""), "no word", x -> x.twins(A), -2);
        grants(() -> coinAll(Check.told(BARE + ";word ba means a;coined b means a")), "not coined ones", x -> x.twins(A), -2);
        grants(bare(";word ba means a;word b means a;gone a day 0;gone b day 1"), "though they can't be said", x -> x.twins(A), 1);
        sentence("Promise 33", "NONE: 1 (no TONGUE); 2.");
        isNoTongue("twins", x -> x.twins(0));
        isNoTongue("twins of no letter", x -> x.twins(26));
        bounds(full(), "twins", GapLetter::twins, 0, 25, 2);
    }
}
