import java.io.IOException;
import java.util.function.Supplier;

/** Promises 44 to 53, and the terms they rest on, at their boundaries: acts, undoing, marks, what is told. */
public final class ActBoundaryTest extends Boundary {
    private ActBoundaryTest() {
    }

    public static void main(String[] args) throws IOException {
        begin("ActBoundaryTest");
        calls();
        daysOfAYear();
        actsAreActs();
        undoing();
        marking();
        lose();
        find();
        coin();
        days();
        undo();
        mark();
        back();
        led();
        size();
        troubleNumbers();
        trouble();
        end(44, 53);
    }

    private static Supplier<GapLetter> bare(String lines) {
        return told(BARE + lines);
    }

    private static GapLetter onDay(GapLetter x, int day) {
        for (int left = day - x.size(8); left > 0; left = day - x.size(8)) {
            x.days(Math.min(99, left));
        }
        due("the day", x.size(8), day);
        return x;
    }

    private static GapLetter found(GapLetter x, String letters) {
        for (char sign : letters.toCharArray()) {
            due("find " + sign, x.find(letter(sign)), true);
        }
        return x;
    }

    private static Supplier<GapLetter> fullOnDay(int day) {
        return () -> onDay(Check.told(FULL), day);
    }

    private static void calls() {
        sentence("What it is", "An object is used for at most 512 calls after it has been made;");
        GapLetter x = new GapLetter();
        for (int i = 0; i < 50; i++) {
            due("feed", x.feed(0x20202020, 0x20202020, 0x20202020, 0x20202020, 0x20202020), 20 * (i + 1));
        }
        due("a fault", x.tongue(1000), -1);
        for (int i = 0; i < 2; i++) {
            due("feed", x.feed(0x746f6e67, 0x75652079, 0x65617220, 0x373b7468, 0x696e6720) % 20, 0);
            due("feed", x.feed(0x6f776c3b, 0x776f7264, 0x20686f6f, 0x74206d65, 0x616e7320) % 20, 0);
            due("feed", x.feed(0x6f776c20, 0x20202020, 0x20202020, 0x20202020, 0x20202020) % 20, 0);
            due("a tongue", x.tongue(43), 1);
        }
        for (int used = 59; used < 511; used += 2) {
            due("lose", x.lose(letter('h')), true);
            due("find", x.find(letter('h')), true);
        }
        due("the 512th", x.said(), 1);
    }

    private static void daysOfAYear() {
        sentence("Terms III", "a letter told of goes on the day whose rest by the year's days is its day's rest by these (so each year anew; on day 0, NOW at first, too).");
        String ten = "tongue year 10;thing a;gone a day 0;gone b day 10;gone c day 9;gone d day 99;gone e day 11;gone f day 90";
        GapLetter x = Check.told(ten);
        due("on day 0", x.gone(), bits("abf"));
        due("day 1", x.days(1), bits("e"));
        due("days 2 to 8", x.days(7), 0);
        due("day 9", x.days(1), bits("cd"));
        found(x, "abcdef");
        due("day 10", x.days(1), bits("abf"));
        due("day 11", x.days(1), bits("e"));
        due("days 12 to 18", x.days(7), 0);
        due("day 19", x.days(1), bits("cd"));
        GapLetter y = Check.told("tongue year 99;thing a;gone a day 0;gone b day 98;gone c day 99");
        due("on day 0 of 99", y.gone(), bits("ac"));
        due("up to day 97", y.days(97), 0);
        due("day 98", y.days(1), bits("b"));
        found(y, "abc");
        due("day 99", y.days(1), bits("ac"));
        GapLetter z = Check.told("tongue year 1;thing a;gone a day 0;gone b day 1;gone c day 99");
        due("all on each day", z.gone(), bits("abc"));
        found(z, "abc");
        due("all on the next", z.days(1), bits("abc"));
        GapLetter last = found(onDay(Check.told(ten), 998), "cd");
        due("day 999", last.days(1), bits("cd"));
    }

    private static void actsAreActs() {
        sentence("Terms III", "ACTS: LOSE, FIND a letter, COIN a word, DAYS (day by day letters go; what is found may go anew).");
        GapLetter x = Check.told(FULL);
        x.lose(letter('e'));
        due("lose", x.size(9), 1);
        x.find(letter('e'));
        due("find", x.size(9), 2);
        x.coin(0);
        due("coin", x.size(9), 3);
        due("b goes", x.days(2), bits("b"));
        due("days", x.size(9), 4);
        due("no letter goes", x.days(1), 0);
        due("days without a loss", x.size(9), 5);
        x.mark();
        due("a mark is none", x.size(9), 5);
        x.lose(letter('b'));
        x.find(26);
        x.coin(0);
        x.days(100);
        due("what is refused is none", x.size(9), 5);
        found(x, "b");
        due("up to day 98", x.days(95), bits("cyz"));
        due("a and d are gone by day 99", x.days(1), 0);
        due("anew on day 100", x.days(1), bits("b"));
    }

    private static void undoing() {
        sentence("Terms III", "UNDO: the latest (16 are kept).");
        GapLetter x = Check.told(BARE);
        for (int at = 0; at < 16; at++) {
            x.lose(at);
            due("kept", x.size(9), at + 1);
        }
        x.lose(16);
        due("17 acts", x.size(9), 16);
        for (int at = 16; at >= 1; at--) {
            due("undo", x.undo(), true);
            due("the latest", x.gone(), (1 << at) - 1);
            due("less by one", x.size(9), at - 1);
        }
        due("the first of 17 isn't kept", x.undo(), false);
        due("its trouble", x.trouble(), 6);
        due("it stays", x.gone(), 1);
        GapLetter y = Check.told(BARE);
        for (int round = 0; round < 5; round++) {
            for (int i = 0; i < 5; i++) {
                y.lose(round * 5 + i);
            }
            y.undo();
            y.undo();
        }
        due("of 15 that stand the first isn't kept, as there were 17", y.size(9), 14);
        due("gone", y.gone(), bits("abcfghklmpqruvw"));
        for (int i = 0; i < 14; i++) {
            due("undo " + i, y.undo(), true);
        }
        due("nothing more", y.undo(), false);
        due("the first stays", y.gone(), 1);
    }

    private static void marking() {
        sentence("Terms III", "MARKS: up to 3; gone back to one, nothing can be undone.");
        GapLetter x = Check.told(FULL);
        for (int i = 0; i < 3; i++) {
            due("a mark", x.mark() >= 0, true);
        }
        due("one more", x.mark(), -1);
        due("no room", x.trouble(), 3);
        due("three", x.size(10), 3);
        x.lose(letter('k'));
        x.lose(letter('l'));
        due("back", x.back(1), true);
        due("nothing to undo", x.size(9), 0);
        due("undo", x.undo(), false);
        due("nothing", x.trouble(), 6);
        due("still no room", x.mark(), -1);
        x.lose(letter('k'));
        due("what comes then can be undone", x.undo(), true);
        due("gone", x.gone(), bits("ad"));
    }

    private static void lose() {
        sentence("Promise 44", "LOSE (0 .. 25): true; false: 1 (no TONGUE); 2; 5 (it is gone).");
        grants(bare(""), "a", x -> yes(x.lose(A)), 1);
        grants(bare(""), "z", x -> yes(x.lose(Z)), 1);
        grants(() -> onlyLeft(Check.told(BARE), "z"), "the last that is left", x -> yes(x.lose(Z)), 1);
        actBounds(bare(""), "lose", (x, letter) -> yes(x.lose(letter)), 0, 25, 2);
        denies(full(), "it went on day 0", x -> yes(x.lose(A)), 5);
        denies(() -> without(Check.told(FULL), "z"), "it was lost", x -> yes(x.lose(Z)), 5);
        denies(() -> onlyLeft(Check.told(BARE), ""), "all are gone", x -> yes(x.lose(Z)), 5);
        denies(GapLetter::new, "no tongue", x -> yes(x.lose(A)), 1);
        denies(GapLetter::new, "no tongue, no letter", x -> yes(x.lose(26)), 1);
        GapLetter x = Check.told(BARE);
        x.lose(Z);
        due("it is gone", x.gone(), 1 << 25);
    }

    private static void find() {
        sentence("Promise 45", "FIND: true; false: 1 (no TONGUE); 2; 5 (it isn't gone).");
        Supplier<GapLetter> allGone = () -> onlyLeft(Check.told(BARE), "");
        grants(allGone, "a", x -> yes(x.find(A)), 1);
        grants(allGone, "z", x -> yes(x.find(Z)), 1);
        actBounds(allGone, "find", (x, letter) -> yes(x.find(letter)), 0, 25, 2);
        denies(bare(""), "it isn't gone", x -> yes(x.find(A)), 5);
        denies(bare(""), "it isn't gone", x -> yes(x.find(Z)), 5);
        denies(GapLetter::new, "no tongue", x -> yes(x.find(A)), 1);
        denies(GapLetter::new, "no tongue, no letter", x -> yes(x.find(-1)), 1);
        GapLetter x = allGone.get();
        x.find(Z);
        due("all but z", x.gone(), ALL - (1 << 25));
    }

    private static void coin() {
        sentence("Promise 46", "COIN a coined word, as told: true; false: 1; 5 (it is).");
        actBounds(full(), "coin", (x, k) -> yes(x.coin(k)), 0, 3, 1);
        for (int k = 0; k < 4; k++) {
            int word = k;
            grants(full(), "coin " + k, x -> yes(x.coin(word)), 1);
            GapLetter x = Check.told(FULL);
            x.coin(k);
            for (int w = 8; w < 12; w++) {
                due("word " + w, x.word(w, 4), w == 8 + k ? 1 : 0);
            }
            denies(() -> coinAll(Check.told(FULL)), "it is", y -> yes(y.coin(word)), 5);
        }
        grants(() -> without(Check.told(FULL), "ij"), "though it can't be said", x -> yes(x.coin(0)), 1);
        denies(bare(";word b means a"), "of none", x -> yes(x.coin(0)), 1);
        denies(GapLetter::new, "no tongue", x -> yes(x.coin(0)), 1);
    }

    private static void days() {
        sentence("Promise 47", "DAYS (1 .. 99): letters that went, as bits.");
        grants(full(), "a day", x -> x.days(1), bits("b"));
        grants(full(), "99 days", x -> x.days(99), bits("bcyz"));
        grants(() -> found(Check.told(FULL), "ad"), "99 days", x -> x.days(99), bits("abcdyz"));
        grants(() -> found(Check.told(FULL), "ad"), "98 days", x -> x.days(98), bits("bcyz"));
        grants(() -> without(Check.told(FULL), "b"), "it was gone", x -> x.days(1), 0);
        grants(bare(""), "none goes", x -> x.days(99), 0);
        sentence("Promise 47", "NONE: 1 (no TONGUE); 2; 3 (it would be above 999).");
        isNoTongue("days", x -> x.days(1));
        isNoTongue("days of no number", x -> x.days(0));
        bounds(full(), "days", GapLetter::days, 1, 99, 2);
        bounds(fullOnDay(900), "days", GapLetter::days, 1, 99, 2);
        grants(fullOnDay(900), "up to 999", x -> x.days(99), 0);
        grants(fullOnDay(998), "up to 999", x -> x.days(1), 0);
        refuses(fullOnDay(901), "up to 1,000", x -> x.days(99), 3);
        refuses(fullOnDay(998), "up to 1,000", x -> x.days(2), 3);
        refuses(fullOnDay(999), "1,000", x -> x.days(1), 3);
        refuses(fullOnDay(999), "1,098", x -> x.days(99), 3);
        refuses(fullOnDay(999), "no number, no room", x -> x.days(100), 2);
        refuses(fullOnDay(999), "no number, no room", x -> x.days(0), 2);
        GapLetter x = fullOnDay(999).get();
        x.undo();
        due("a day undone is there again", x.days(1) >= 0, true);
    }

    private static void undo() {
        sentence("Promise 48", "UNDO: true; false: 6.");
        denies(GapLetter::new, "no tongue", x -> yes(x.undo()), 6);
        denies(full(), "nothing yet", x -> yes(x.undo()), 6);
        grants(() -> without(Check.told(FULL), "k"), "an act", x -> yes(x.undo()), 1);
        GapLetter x = Check.told(FULL);
        x.lose(letter('k'));
        x.find(A);
        x.coin(3);
        x.days(99);
        due("gone", x.gone(), bits("abcdkyz"));
        x.undo();
        due("the day", x.size(8), 0);
        due("what went is there again", x.gone(), bits("dk"));
        due("coined yet", x.word(11, 4), 1);
        x.undo();
        due("not coined", x.word(11, 4), 0);
        due("it can be coined anew", x.coin(3), true);
        x.undo();
        x.undo();
        due("not found", x.gone(), bits("adk"));
        x.undo();
        due("not lost", x.gone(), bits("ad"));
        due("nothing more", x.undo(), false);
        stays("all undone", x, Check.told(FULL));
        GapLetter y = without(Check.told(FULL), "k");
        Check.tell(y, FULL);
        due("not beyond a tongue", y.undo(), false);
        due("its trouble", y.trouble(), 6);
    }

    private static void mark() {
        sentence("Promise 49", "A MARK: its number.");
        GapLetter x = Check.told(FULL);
        due("the first", x.mark(), 0);
        due("the second", x.mark(), 1);
        due("the third", x.mark(), 2);
        due("trouble", x.trouble(), 0);
        Check.tell(x, FULL);
        due("the first of another tongue", x.mark(), 0);
        sentence("Promise 49", "NONE: 1 (no TONGUE); 3.");
        isNoTongue("mark", GapLetter::mark);
        grants(() -> marked(2), "the last", GapLetter::mark, 2);
        refuses(() -> marked(3), "no room", GapLetter::mark, 3);
    }

    private static GapLetter marked(int count) {
        GapLetter x = Check.told(FULL);
        for (int i = 0; i < count; i++) {
            x.mark();
            x.lose(letter((char) ('k' + i)));
            x.coin(i);
            x.days(1);
        }
        return x;
    }

    private static void back() {
        sentence("Promise 50", "All is as by a MARK (all MARKS stay): true; false: 1.");
        GapLetter x = marked(3);
        Check.feed(x, "abc");
        int[] gone = {bits("ad"), bits("abdk"), bits("abdkl")};
        for (int mark : new int[] {2, 0, 1, 2, 1, 0, 0}) {
            due("back to " + mark, x.back(mark), true);
            due("trouble", x.trouble(), 0);
            due("gone", x.gone(), gone[mark]);
            due("day", x.size(8), mark);
            for (int k = 0; k < 4; k++) {
                due("coined " + k, x.word(8 + k, 4), k < mark ? 1 : 0);
            }
            due("all marks stay", x.size(10), 3);
            due("nothing to undo", x.size(9), 0);
            x.lose(Z);
            x.days(9);
        }
        due("the tape is no part of it", x.size(11), 20);
        denies(() -> marked(0), "none yet", y -> yes(y.back(0)), 1);
        denies(() -> marked(1), "the second", y -> yes(y.back(1)), 1);
        denies(() -> marked(2), "the third", y -> yes(y.back(2)), 1);
        for (int wrong : new int[] {3, -1, Integer.MIN_VALUE, Integer.MAX_VALUE}) {
            denies(() -> marked(3), "back to " + wrong, y -> yes(y.back(wrong)), 1);
        }
        denies(GapLetter::new, "no tongue", y -> yes(y.back(0)), 1);
        GapLetter y = marked(3);
        Check.tell(y, FULL);
        due("no marks of another tongue", y.back(0), false);
        due("its trouble", y.trouble(), 1);
        y.lose(letter('p'));
        y.mark();
        y.undo();
        due("a mark isn't undone", y.back(0), true);
        due("gone", y.gone(), bits("adp"));
    }

    private static void led() {
        sentence("Promise 51", "The i-th thing, by numbers, that can't be SAID. NoSuchElementException if there is none such.");
        GapLetter x = Check.told(FULL);
        due("the only one", x.led(0), 5);
        due("no other", ledThrows(x, 1), true);
        for (int wrong : new int[] {-1, 6, Integer.MIN_VALUE, Integer.MAX_VALUE}) {
            due("none such of " + wrong, ledThrows(x, wrong), true);
        }
        onlyLeft(x, "");
        for (int i = 0; i < 6; i++) {
            due("all", x.led(i), i);
        }
        due("no seventh", ledThrows(x, 6), true);
        due("no other", ledThrows(x, -1), true);
        GapLetter y = found(Check.told(FULL), "ad");
        due("all can be said", ledThrows(y, 0), true);
        without(y, "kn");
        due("the first", y.led(0), 0);
        due("the third", y.led(1), 2);
        due("no more", ledThrows(y, 2), true);
        due("without a tongue", ledThrows(new GapLetter(), 0), true);
        y.lose(letter('k'));
        ledThrows(y, 2);
        y.led(0);
        due("it tells no trouble", y.trouble(), 5);
        stays("led", throughLed(Check.told(FULL)), Check.told(FULL));
    }

    private static GapLetter throughLed(GapLetter x) {
        ledThrows(x, 0);
        ledThrows(x, 1);
        return x;
    }

    private static void size() {
        sentence("Promise 52", "0 days in a year, 1 things, 2 sayings, 3 words, 4 coined, 5 letters that go, 6 heard and shunned, 7 old, 8 the day NOW, 9 ACTS that can be undone, 10 MARKS, 11 bytes of THE TAPE.");
        int[] most = {99, 6, 5, 8, 4, 6, 6, 5, 999, 16, 3, 1000};
        GapLetter x = onDay(Check.told(FULL), 999);
        for (int i = 0; i < 10; i++) {
            x.lose(letter('e') + i);
        }
        for (int i = 0; i < 3; i++) {
            x.mark();
        }
        Check.feed(x, " ".repeat(1000));
        for (int what = 0; what < most.length; what++) {
            due("at most of " + what, x.size(what), most[what]);
        }
        int[] least = {1, 1, 0, 0, 0, 0, 0, 0, 0, 0, 0, 0};
        GapLetter y = Check.told(BARE);
        for (int what = 0; what < least.length; what++) {
            due("at least of " + what, y.size(what), least[what]);
        }
        sentence("Promise 52", "NONE for others; 0 for what there isn't.");
        for (int other : new int[] {-1, 12, Integer.MIN_VALUE, Integer.MAX_VALUE}) {
            due("size of " + other, x.size(other), -1);
            due("size of " + other + " without a tongue", new GapLetter().size(other), -1);
        }
        for (int what = 0; what <= 11; what++) {
            due("without a tongue", new GapLetter().size(what), 0);
        }
        GapLetter z = new GapLetter();
        z.feed(0, 0, 0, 0, 0);
        due("a tape without a tongue", z.size(11), 20);
        z.undo();
        z.size(99);
        due("it tells no trouble", z.trouble(), 6);
    }

    private static void troubleNumbers() {
        sentence("Terms IV", "0 it wasn't; 1 there is none such; 2 a number; 3 no room; 4 a FAULT; 5 not so; 6 there is none.");
        GapLetter x = new GapLetter();
        due("at first", x.trouble(), 0);
        x.gone();
        due("none such", x.trouble(), 1);
        x.tongue(1);
        due("a number", x.trouble(), 2);
        x.tongue(0);
        due("a fault", x.trouble(), 4);
        x.undo();
        due("there is none", x.trouble(), 6);
        Check.tell(x, FULL);
        due("it wasn't", x.trouble(), 0);
        x.lose(A);
        due("not so", x.trouble(), 5);
        for (int i = 0; i < 4; i++) {
            x.mark();
        }
        due("no room", x.trouble(), 3);
        x.thing(5, 0);
        due("-2 isn't refused", x.trouble(), 0);
        sentence("Terms IV", "TROUBLE of the latest call that may be refused (those of which a number is told here)");
        GapLetter y = Check.told(FULL);
        y.lose(A);
        y.feed(0, 0, 0, 0, 0);
        due("behind feed", y.trouble(), 5);
        y.fault();
        due("behind fault", y.trouble(), 5);
        y.where();
        due("behind where", y.trouble(), 5);
        y.led(0);
        due("behind led", y.trouble(), 5);
        ledThrows(y, 9);
        due("behind led that throws", y.trouble(), 5);
        y.size(0);
        due("behind size", y.trouble(), 5);
        y.size(12);
        due("behind size of others", y.trouble(), 5);
        Check.feed(y, " ".repeat(980));
        due("a full tape", y.feed(0, 0, 0, 0, 0), -1);
        due("behind a full tape", y.trouble(), 5);
        sentence("Terms IV", "`NONE = -1`: There is none; refused.");
        due("NONE", GapLetter.NONE, -1);
    }

    private static void trouble() {
        sentence("Promise 53", "TROUBLE.");
        due("at first", new GapLetter().trouble(), 0);
        GapLetter x = Check.told(FULL);
        x.users(26);
        due("a number", x.trouble(), 2);
        due("it stays", x.trouble(), 2);
        x.users(25);
        due("the latest wasn't", x.trouble(), 0);
    }
}
