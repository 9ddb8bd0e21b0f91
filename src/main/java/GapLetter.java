import java.util.Arrays;
import java.util.NoSuchElementException;

/** A tongue from which letters go missing: what can be said yet, and what follows from that. */
public final class GapLetter {
    public static final int NONE = -1;

    /** The answer of a call that wasn't refused, but found nothing. */
    private static final int ABSENT = -2;

    private static final int FINE = 0;
    private static final int NO_SUCH = 1;
    private static final int NUMBER = 2;
    private static final int NO_ROOM = 3;
    private static final int FAULTY = 4;
    private static final int NOT_SO = 5;
    private static final int NOTHING = 6;

    private static final int LETTERS = 26;
    private static final int ALL_LETTERS = (1 << LETTERS) - 1;
    private static final int TAPE_ROOM = 1000;
    private static final int FED_AT_ONCE = 20;
    private static final int MOST_DAYS = 99;
    private static final int LAST_DAY = 999;

    private final byte[] tape = new byte[TAPE_ROOM];
    private final Teller teller = new Teller();
    private final Now now = new Now();
    private final Past past = new Past();
    private final Game game = new Game();
    private Tongue tongue = new Tongue();
    private boolean told = false;
    private int fed = 0;
    private int trouble = FINE;
    private int fault = 0;
    private int place = 0;

    public GapLetter() {
    }

    // ---- the tongue

    public int feed(int a, int b, int c, int d, int e) {
        if (fed + FED_AT_ONCE > TAPE_ROOM) {
            return NONE;
        }
        putBytes(a);
        putBytes(b);
        putBytes(c);
        putBytes(d);
        putBytes(e);
        return fed;
    }

    private void putBytes(int number) {
        for (int shift = 24; shift >= 0 && fed < TAPE_ROOM; shift -= 8) {
            tape[fed] = (byte) (number >>> shift);
            fed++;
        }
    }

    public int tongue(int n) {
        if (refused(n < 0 || n > fed ? NUMBER : FINE)) {
            return NONE;
        }
        fault = teller.tell(tape, n);
        place = teller.place();
        fed = 0;
        if (refused(fault == 0 ? FINE : FAULTY)) {
            return NONE;
        }
        tongue = teller.handOver(tongue);
        told = true;
        now.begin(tongue.goingOn(0));
        past.forget();
        game.forget();
        return tongue.things;
    }

    public int fault() {
        return fault;
    }

    public int where() {
        return trouble == FAULTY ? place : NONE;
    }

    // ---- now

    public int gone() {
        return refused(ofTongue()) ? NONE : now.gone;
    }

    public int word(int w, int what) {
        if (refused(isWord(w) && what >= 0 && what <= 4 ? FINE : NO_SUCH)) {
            return NONE;
        }
        switch (what) {
            case 0:
                return tongue.lengths[w];
            case 1:
                return tongue.means[w];
            case 2:
                return canBeSaid(w) ? 1 : 0;
            case 3:
                return Spelling.bits(tongue.spelt[w]);
            default:
                return bit(tongue.spoken(now.minted), w) ? 1 : 0;
        }
    }

    public int thing(int t, int what) {
        if (refused(isThing(t) && what >= 0 && what <= 3 ? FINE : NO_SUCH)) {
            return NONE;
        }
        int sayable = sayableNow();
        int shortest = tongue.shortestOf(t, sayable);
        switch (what) {
            case 0:
                return shortest;
            case 1:
                return shortest < 0 ? ABSENT : tongue.lengths[shortest];
            case 2:
                return sayable & tongue.meaning[t];
            default:
                return Integer.bitCount(sayable & tongue.meaning[t]);
        }
    }

    public int saying(int k) {
        return refused(ofSaying(k)) ? NONE : tongue.sayingLength(k, sayableNow());
    }

    public int dumbIn(int k) {
        return refused(ofSaying(k)) ? NONE : tongue.dumbPart(k, sayableNow());
    }

    public int said() {
        return refused(ofTongue()) ? NONE : tongue.thingsBy(sayableNow());
    }

    public int longest() {
        if (refused(ofTongue())) {
            return NONE;
        }
        int sayable = sayableNow();
        int best = ABSENT;
        int most = 0;
        for (int t = 0; t < tongue.things; t++) {
            int w = tongue.shortestOf(t, sayable);
            if (w >= 0 && (tongue.lengths[w] > most || tongue.lengths[w] == most && w < best)) {
                best = w;
                most = tongue.lengths[w];
            }
        }
        return best;
    }

    public int users(int letter) {
        return refused(ofLetter(letter)) ? NONE : Integer.bitCount(sayableNow() & tongue.users[letter]);
    }

    public int saidIf(int letter) {
        return refused(ofLetter(letter)) ? NONE : thingsWithout(now.gone ^ (1 << letter));
    }

    public int lasts(int k) {
        if (refused(ofSaying(k))) {
            return NONE;
        }
        int gone = now.gone;
        for (int ahead = 0; ahead <= MOST_DAYS; ahead++) {
            if (ahead > 0) {
                gone |= tongue.goingOn(now.day + ahead);
            }
            if (tongue.dumbPart(k, tongue.sayable(gone, now.minted)) >= 0) {
                return ahead;
            }
        }
        return ABSENT;
    }

    public int saidOn(int days) {
        if (refused(ofTongueAnd(days >= 0 && days <= MOST_DAYS))) {
            return NONE;
        }
        return thingsWithout(goneIn(days));
    }

    public int longestSaying() {
        if (refused(ofTongue())) {
            return NONE;
        }
        int sayable = sayableNow();
        int best = ABSENT;
        int most = 0;
        for (int k = 0; k < tongue.sayings; k++) {
            int length = tongue.sayingLength(k, sayable);
            if (length > most) {
                best = k;
                most = length;
            }
        }
        return best;
    }

    public int lettersOf(int t) {
        if (refused(isThing(t) ? FINE : NO_SUCH)) {
            return NONE;
        }
        int ways = sayableNow() & tongue.meaning[t];
        int shared = ways == 0 ? 0 : ALL_LETTERS;
        for (int w = 0; w < tongue.allWords(); w++) {
            if (bit(ways, w)) {
                shared &= Spelling.bits(tongue.spelt[w]);
            }
        }
        return shared;
    }

    public int rhymes(int w, int letters) {
        if (refused(!isWord(w) ? NO_SUCH : letters < 1 || letters > Spelling.LONGEST ? NUMBER : FINE)) {
            return NONE;
        }
        if (tongue.lengths[w] < letters) {
            return 0;
        }
        int sayable = sayableNow();
        int found = 0;
        for (int v = 0; v < tongue.allWords(); v++) {
            if (v != w && bit(sayable, v) && tongue.lengths[v] >= letters
                    && Spelling.ending(tongue.spelt[v], letters) == Spelling.ending(tongue.spelt[w], letters)) {
                found |= 1 << v;
            }
        }
        return found;
    }

    // ---- which letter

    public int which() {
        return refused(ofTongue()) ? NONE : Clues.lettersLeft(tongue);
    }

    public int bill() {
        return refused(ofTongue()) ? NONE : Clues.bestWord(tongue);
    }

    public int billLeaves() {
        if (refused(ofTongue())) {
            return NONE;
        }
        int best = Clues.bestWord(tongue);
        return best < 0 ? ABSENT : Clues.leftAtMost(tongue, best);
    }

    public int judge(int letter) {
        return refused(ofLetter(letter)) ? NONE : Clues.firstAgainst(tongue, letter);
    }

    // ---- losing

    public int worst() {
        return refused(ofTongue()) ? NONE : Losses.extreme(tongue, now.gone, sayableNow(), false);
    }

    public int kindest() {
        return refused(ofTongue()) ? NONE : Losses.extreme(tongue, now.gone, sayableNow(), true);
    }

    public int dumb() {
        return refused(ofTongue()) ? NONE : Losses.fewestSilencing(tongue, now.gone, sayableNow());
    }

    public int hinges(int k) {
        if (refused(ofSaying(k))) {
            return NONE;
        }
        int sayable = sayableNow();
        if (refused(tongue.dumbPart(k, sayable) >= 0 ? NOT_SO : FINE)) {
            return NONE;
        }
        int found = 0;
        for (int letter = 0; letter < LETTERS; letter++) {
            if (!bit(now.gone, letter) && tongue.dumbPart(k, sayable & ~tongue.users[letter]) >= 0) {
                found |= 1 << letter;
            }
        }
        return found;
    }

    public int again() {
        return refused(ofTongue()) ? NONE : Losses.fewestCoined(tongue, now.gone, now.minted);
    }

    public int rarest() {
        if (refused(ofTongue())) {
            return NONE;
        }
        int sayable = sayableNow();
        int best = ABSENT;
        int fewest = Tongue.WORDS + Tongue.COINED + 1;
        for (int t = 0; t < tongue.things; t++) {
            int ways = Integer.bitCount(sayable & tongue.meaning[t]);
            if (ways > 0 && ways < fewest) {
                best = t;
                fewest = ways;
            }
        }
        return best;
    }

    // ---- old words

    public int readings(int k, int letter) {
        if (refused(!told || k < 0 || k >= tongue.olds ? NO_SUCH : isLetter(letter) ? FINE : NUMBER)) {
            return NONE;
        }
        return OldWords.read(tongue, k, letter);
    }

    public int ways(int letter) {
        return refused(ofLetter(letter)) ? NONE : OldWords.countWays(tongue, letter);
    }

    public int stoodOut() {
        if (refused(ofTongue())) {
            return NONE;
        }
        int found = 0;
        for (int letter = 0; letter < LETTERS; letter++) {
            if (OldWords.countWays(tongue, letter) > 0) {
                found |= 1 << letter;
            }
        }
        return found;
    }

    public int twins(int letter) {
        return refused(ofLetter(letter)) ? NONE : OldWords.firstAlike(tongue, letter);
    }

    // ---- a game

    public int wins(int w) {
        if (refused(ofSayable(w))) {
            return NONE;
        }
        game.lay(tongue, sayableNow());
        return game.isWon(0, w) ? 1 : 0;
    }

    public int opening() {
        if (refused(ofTongue())) {
            return NONE;
        }
        int sayable = sayableNow();
        game.lay(tongue, sayable);
        return game.firstWon(0, sayable);
    }

    public int answer(int w) {
        if (refused(ofSayable(w))) {
            return NONE;
        }
        game.lay(tongue, sayableNow());
        return game.firstWon(1 << w, game.answersTo(w));
    }

    public int longestChain() {
        if (refused(ofTongue())) {
            return NONE;
        }
        game.lay(tongue, sayableNow());
        return game.mostInARow();
    }

    public int answers(int w) {
        if (refused(ofSayable(w))) {
            return NONE;
        }
        game.lay(tongue, sayableNow());
        return Integer.bitCount(game.answersTo(w));
    }

    // ---- by chance

    public long yet(int t, int n, boolean lower) {
        if (refused(!isThing(t) ? NO_SUCH : mayGoByChance(n) ? FINE : NUMBER)) {
            return NONE;
        }
        int upper = Chance.count(tongue, 1 << t, now.gone, sayableNow(), n);
        return Chance.lowestTerms(upper, Chance.sets(lettersLeft(), n), lower);
    }

    public long mean(int n, boolean lower) {
        if (refused(ofTongueAnd(mayGoByChance(n)))) {
            return NONE;
        }
        int upper = Chance.count(tongue, (1 << tongue.things) - 1, now.gone, sayableNow(), n);
        return Chance.lowestTerms(upper, Chance.sets(lettersLeft(), n), lower);
    }

    // ---- losses by draws

    public int silence(int seed) {
        if (refused(ofTongueAnd(Chance.isSeed(seed)))) {
            return NONE;
        }
        int gone = now.gone;
        int drawn = seed;
        int losses = 0;
        while (losses < LETTERS && thingsWithout(gone) != 0) {
            drawn = Chance.next(drawn);
            gone |= Chance.pick(gone, drawn);
            losses++;
        }
        return losses;
    }

    public int saidBehind(int seed, int n) {
        if (refused(ofTongueAnd(Chance.isSeed(seed) && n >= 0 && n <= lettersLeft()))) {
            return NONE;
        }
        return Integer.bitCount(thingsWithout(Chance.goneBehind(now.gone, seed, n)));
    }

    public int goesAt(int seed, int n) {
        if (refused(ofTongueAnd(Chance.isSeed(seed) && n >= 1 && n <= lettersLeft()))) {
            return NONE;
        }
        int last = Chance.goneBehind(now.gone, seed, n) & ~Chance.goneBehind(now.gone, seed, n - 1);
        return Integer.bitCount(last - 1);
    }

    // ---- acts

    public boolean lose(int letter) {
        if (refused(ofLetter(letter)) || refused(bit(now.gone, letter) ? NOT_SO : FINE)) {
            return false;
        }
        past.keep(now);
        now.gone |= 1 << letter;
        return true;
    }

    public boolean find(int letter) {
        if (refused(ofLetter(letter)) || refused(bit(now.gone, letter) ? FINE : NOT_SO)) {
            return false;
        }
        past.keep(now);
        now.gone &= ~(1 << letter);
        return true;
    }

    public boolean coin(int k) {
        if (refused(!told || k < 0 || k >= tongue.coined ? NO_SUCH : bit(now.minted, k) ? NOT_SO : FINE)) {
            return false;
        }
        past.keep(now);
        now.minted |= 1 << k;
        return true;
    }

    public int days(int n) {
        if (refused(ofTongueAnd(n >= 1 && n <= MOST_DAYS)) || refused(now.day + n > LAST_DAY ? NO_ROOM : FINE)) {
            return NONE;
        }
        past.keep(now);
        int gone = goneIn(n);
        int went = gone & ~now.gone;
        now.gone = gone;
        now.day += n;
        return went;
    }

    public boolean undo() {
        if (refused(past.kept() == 0 ? NOTHING : FINE)) {
            return false;
        }
        past.takeBack(now);
        return true;
    }

    public int mark() {
        if (refused(!told ? NO_SUCH : past.marks() >= Past.MARKS ? NO_ROOM : FINE)) {
            return NONE;
        }
        return past.setMark(now);
    }

    public boolean back(int mark) {
        if (refused(mark < 0 || mark >= past.marks() ? NO_SUCH : FINE)) {
            return false;
        }
        past.goBack(mark, now);
        return true;
    }

    // ---- what is told

    public int led(int i) throws NoSuchElementException {
        int unsaid = ((1 << tongue.things) - 1) & ~tongue.thingsBy(sayableNow());
        int ahead = 0;
        for (int t = 0; t < tongue.things; t++) {
            if (bit(unsaid, t)) {
                if (ahead == i) {
                    return t;
                }
                ahead++;
            }
        }
        throw new NoSuchElementException();
    }

    public int size(int what) {
        switch (what) {
            case 0:
                return tongue.year;
            case 1:
                return tongue.things;
            case 2:
                return tongue.sayings;
            case 3:
                return tongue.words;
            case 4:
                return tongue.coined;
            case 5:
                return tongue.goings;
            case 6:
                return tongue.hearings;
            case 7:
                return tongue.olds;
            case 8:
                return now.day;
            case 9:
                return past.kept();
            case 10:
                return past.marks();
            case 11:
                return fed;
            default:
                return NONE;
        }
    }

    public int trouble() {
        return trouble;
    }

    // ---- what the calls share

    /** Every call that may be refused passes here, accepted or not: its trouble is the latest. */
    private boolean refused(int why) {
        trouble = why;
        return why != FINE;
    }

    private int ofTongue() {
        return told ? FINE : NO_SUCH;
    }

    private int ofTongueAnd(boolean numbersFit) {
        return !told ? NO_SUCH : numbersFit ? FINE : NUMBER;
    }

    private int ofLetter(int letter) {
        return ofTongueAnd(isLetter(letter));
    }

    private int ofSaying(int k) {
        return told && k >= 0 && k < tongue.sayings ? FINE : NO_SUCH;
    }

    private int ofSayable(int w) {
        return !isWord(w) ? NO_SUCH : canBeSaid(w) ? FINE : NOT_SO;
    }

    private boolean isWord(int w) {
        return told && w >= 0 && w < tongue.allWords();
    }

    private boolean isThing(int t) {
        return told && t >= 0 && t < tongue.things;
    }

    private static boolean isLetter(int letter) {
        return letter >= 0 && letter < LETTERS;
    }

    private static boolean bit(int bits, int at) {
        return ((bits >>> at) & 1) != 0;
    }

    private boolean canBeSaid(int w) {
        return bit(sayableNow(), w);
    }

    private int sayableNow() {
        return tongue.sayable(now.gone, now.minted);
    }

    private int thingsWithout(int gone) {
        return tongue.thingsBy(tongue.sayable(gone, now.minted));
    }

    private int goneIn(int days) {
        int gone = now.gone;
        for (int ahead = 1; ahead <= days; ahead++) {
            gone |= tongue.goingOn(now.day + ahead);
        }
        return gone;
    }

    private int lettersLeft() {
        return LETTERS - Integer.bitCount(now.gone);
    }

    private boolean mayGoByChance(int n) {
        return n >= 0 && n <= Chance.MOST && n <= lettersLeft();
    }

    /** Words of up to eight letters as numbers, five bits a letter (a is 1), the last letter lowest. */
    private static final class Spelling {
        static final int LONGEST = 8;
        static final int BITS = 5;
        static final int MASK = 31;

        private Spelling() {
        }

        static long of(String text) {
            long spelt = 0;
            for (int i = 0; i < text.length(); i++) {
                spelt = join(spelt, text.charAt(i) - 'a');
            }
            return spelt;
        }

        static long join(long spelt, int letter) {
            return (spelt << BITS) | (letter + 1);
        }

        static int length(long spelt) {
            int length = 0;
            for (int i = 0; i < LONGEST; i++) {
                if (spelt >>> (BITS * i) != 0) {
                    length++;
                }
            }
            return length;
        }

        /** The letter at a place counted from the word's end; -1 beyond its beginning. */
        static int letterFromEnd(long spelt, int i) {
            return (int) (spelt >>> (BITS * i) & MASK) - 1;
        }

        static int first(long spelt) {
            return letterFromEnd(spelt, Math.max(0, length(spelt) - 1));
        }

        static int last(long spelt) {
            return letterFromEnd(spelt, 0);
        }

        static int bits(long spelt) {
            int found = 0;
            for (int i = 0; i < LONGEST; i++) {
                int letter = letterFromEnd(spelt, i);
                if (letter >= 0) {
                    found |= 1 << letter;
                }
            }
            return found;
        }

        static long ending(long spelt, int letters) {
            return spelt & ((1L << (BITS * letters)) - 1);
        }

        /** The word from which all of a letter stand out: 0 if it has no other. */
        static long without(long spelt, int letter) {
            long rest = 0;
            for (int i = LONGEST - 1; i >= 0; i--) {
                int here = letterFromEnd(spelt, i);
                if (here >= 0 && here != letter) {
                    rest = join(rest, here);
                }
            }
            return rest;
        }
    }

    /** What a text tells of a tongue: sayings hold things, words are told ones and coined ones behind them. */
    private static final class Tongue {
        static final int THINGS = 6;
        static final int SAYINGS = 5;
        static final int PARTS = 4;
        static final int WORDS = 8;
        static final int COINED = 4;
        static final int GOINGS = 6;
        static final int HEARINGS = 6;
        static final int OLDS = 5;
        private static final int NEVER = -1;

        int year;
        int things;
        int sayings;
        int words;
        int coined;
        int goings;
        int hearings;
        int olds;
        /** Names of things, then, from THINGS on, of sayings. */
        private final long[] names = new long[THINGS + SAYINGS];
        private final int[] partCounts = new int[SAYINGS];
        private final int[] parts = new int[SAYINGS * PARTS];
        final long[] spelt = new long[WORDS + COINED];
        final int[] lengths = new int[WORDS + COINED];
        final int[] means = new int[WORDS + COINED];
        /** By letter the words that have it, by thing those that mean it, as bits. */
        final int[] users = new int[LETTERS];
        final int[] meaning = new int[THINGS];
        private final int[] goingDays = new int[LETTERS];
        final int[] hearingLetters = new int[HEARINGS];
        int shunned;
        final long[] old = new long[OLDS];

        void clear() {
            year = 0;
            things = 0;
            sayings = 0;
            words = 0;
            coined = 0;
            goings = 0;
            hearings = 0;
            olds = 0;
            shunned = 0;
            Arrays.fill(partCounts, 0);
            Arrays.fill(users, 0);
            Arrays.fill(meaning, 0);
            Arrays.fill(goingDays, NEVER);
        }

        void addThing(long name) {
            if (things < THINGS) {
                names[things] = name;
                things++;
            }
        }

        void addSaying(long name) {
            if (sayings < SAYINGS) {
                names[THINGS + sayings] = name;
                sayings++;
            }
        }

        /** Puts a thing behind those of the latest saying. */
        void addPart(int t) {
            int k = sayings - 1;
            if (k >= 0 && partCounts[k] < PARTS) {
                parts[k * PARTS + partCounts[k]] = t;
                partCounts[k]++;
            }
        }

        void addWord(long spelling, int t) {
            if (words < WORDS) {
                putWord(words, spelling, t);
                words++;
            }
        }

        /** Coined words wait from WORDS on until settle() knows how many words stand ahead of them. */
        void addCoined(long spelling, int t) {
            if (coined < COINED) {
                putWord(WORDS + coined, spelling, t);
                coined++;
            }
        }

        private void putWord(int w, long spelling, int t) {
            spelt[w] = spelling;
            lengths[w] = Spelling.length(spelling);
            means[w] = t;
        }

        void addGoing(int letter, int day) {
            if (isLetter(letter)) {
                goingDays[letter] = day;
                goings++;
            }
        }

        void addHearing(long spelling, boolean isShunned) {
            if (hearings < HEARINGS) {
                hearingLetters[hearings] = Spelling.bits(spelling);
                shunned |= isShunned ? 1 << hearings : 0;
                hearings++;
            }
        }

        void addOld(long spelling) {
            if (olds < OLDS) {
                old[olds] = spelling;
                olds++;
            }
        }

        /** To be called once all is told: coined words come behind the others, rows by letter and thing are made. */
        void settle() {
            for (int k = 0; k < coined; k++) {
                putWord(words + k, spelt[WORDS + k], means[WORDS + k]);
            }
            for (int w = 0; w < allWords(); w++) {
                int letters = Spelling.bits(spelt[w]);
                for (int letter = 0; letter < LETTERS; letter++) {
                    users[letter] |= bit(letters, letter) ? 1 << w : 0;
                }
                meaning[means[w]] |= 1 << w;
            }
        }

        boolean hasName(long name) {
            for (int k = 0; k < sayings; k++) {
                if (names[THINGS + k] == name) {
                    return true;
                }
            }
            return thingNamed(name) >= 0;
        }

        int thingNamed(long name) {
            for (int t = 0; t < things; t++) {
                if (names[t] == name) {
                    return t;
                }
            }
            return NONE;
        }

        /** Only while it is told, as coined words still wait behind the room of the others. */
        boolean hasSpelling(long spelling) {
            for (int w = 0; w < words; w++) {
                if (spelt[w] == spelling) {
                    return true;
                }
            }
            for (int k = 0; k < coined; k++) {
                if (spelt[WORDS + k] == spelling) {
                    return true;
                }
            }
            return false;
        }

        boolean hasGoing(int letter) {
            return isLetter(letter) && goingDays[letter] != NEVER;
        }

        int allWords() {
            return words + coined;
        }

        /** Words that may be said at all, as bits. */
        int spoken(int minted) {
            return ((1 << words) - 1) | (minted << words);
        }

        /** Words that can be said with these letters gone, as bits. */
        int sayable(int gone, int minted) {
            int left = spoken(minted);
            for (int letter = 0; letter < LETTERS; letter++) {
                if (bit(gone, letter)) {
                    left &= ~users[letter];
                }
            }
            return left;
        }

        int thingsBy(int sayable) {
            int found = 0;
            for (int t = 0; t < things; t++) {
                found |= (sayable & meaning[t]) != 0 ? 1 << t : 0;
            }
            return found;
        }

        int shortestOf(int t, int sayable) {
            int ways = sayable & meaning[t];
            int best = ABSENT;
            int least = Spelling.LONGEST + 1;
            for (int w = 0; w < allWords(); w++) {
                if (bit(ways, w) && lengths[w] < least) {
                    best = w;
                    least = lengths[w];
                }
            }
            return best;
        }

        int sayingLength(int k, int sayable) {
            int length = partCounts[k] - 1;
            for (int i = 0; i < partCounts[k]; i++) {
                int w = shortestOf(parts[k * PARTS + i], sayable);
                if (w < 0) {
                    return ABSENT;
                }
                length += lengths[w];
            }
            return length;
        }

        int dumbPart(int k, int sayable) {
            for (int i = 0; i < partCounts[k]; i++) {
                if ((sayable & meaning[parts[k * PARTS + i]]) == 0) {
                    return i;
                }
            }
            return ABSENT;
        }

        /** Letters that go on a day, as bits. */
        int goingOn(int day) {
            int found = 0;
            if (year > 0) {
                for (int letter = 0; letter < LETTERS; letter++) {
                    if (goingDays[letter] != NEVER && goingDays[letter] % year == day % year) {
                        found |= 1 << letter;
                    }
                }
            }
            return found;
        }
    }

    /** Parts a tape into tokens, one at a time. */
    private static final class Tokens {
        static final int END = 0;
        static final int WORD = 1;
        static final int WHOLE = 2;
        static final int SEMICOLON = 3;
        static final int COMMA = 4;
        static final int NO_TOKEN = 5;
        private static final int BLANK = 32;
        private static final int MOST_DIGITS = 3;

        private byte[] tape = new byte[0];
        private int end = 0;
        private int behind = 0;
        int kind = END;
        int place = 0;
        long spelt = 0;
        int whole = 0;

        void start(byte[] bytes, int n) {
            tape = bytes;
            end = Math.min(n, bytes.length);
            behind = 0;
            advance();
        }

        void advance() {
            place = behind;
            while (place < end && at(place) == BLANK) {
                place++;
            }
            behind = place;
            if (place >= end) {
                kind = END;
            } else if (isSmallLetter(at(place))) {
                takeWord();
            } else if (isDigit(at(place))) {
                takeWhole();
            } else {
                takeSign();
            }
        }

        private void takeWord() {
            spelt = 0;
            while (behind < end && isSmallLetter(at(behind))) {
                spelt = Spelling.join(spelt, at(behind) - 'a');
                behind++;
            }
            kind = behind - place <= Spelling.LONGEST ? WORD : NO_TOKEN;
        }

        private void takeWhole() {
            whole = 0;
            while (behind < end && isDigit(at(behind))) {
                whole = whole * 10 + at(behind) - '0';
                behind++;
            }
            kind = behind - place <= MOST_DIGITS ? WHOLE : NO_TOKEN;
        }

        private void takeSign() {
            int sign = at(place);
            kind = sign == ';' ? SEMICOLON : sign == ',' ? COMMA : NO_TOKEN;
            behind = place + 1;
        }

        private int at(int i) {
            return i >= 0 && i < tape.length ? tape[i] & 255 : 0;
        }

        private static boolean isSmallLetter(int sign) {
            return sign >= 'a' && sign <= 'z';
        }

        private static boolean isDigit(int sign) {
            return sign >= '0' && sign <= '9';
        }
    }

    /** Reads a text into a tongue, from the left, and stops at its first fault. */
    private static final class Teller {
        private static final int FORM = 1;
        private static final int UNTOLD = 2;
        private static final int TWICE = 3;
        private static final int BOUNDS = 4;
        private static final int MANY = 5;
        private static final int LACKS = 6;

        private static final int TONGUE = 0;
        private static final int THING = 1;
        private static final int SAYING = 2;
        private static final int WORD = 3;
        private static final int COINED = 4;
        private static final int GONE = 5;
        private static final int HEARD = 6;
        private static final int SHUNNED = 7;
        private static final int OLD = 8;
        private static final int OF = 9;
        private static final int MEANS = 10;
        private static final int DAY = 11;
        /** Behind the others, as a name may be this one. */
        private static final int YEAR = 12;
        private static final int NO_KEY = 13;

        private final Tokens tokens = new Tokens();
        private final long[] keys = new long[NO_KEY];
        /** Not the tongue in use, so that a faulty text leaves that one as it was. */
        private Tongue into = new Tongue();
        private int fault = 0;
        private int place = 0;

        Teller() {
            keys[TONGUE] = Spelling.of("tongue");
            keys[THING] = Spelling.of("thing");
            keys[SAYING] = Spelling.of("saying");
            keys[WORD] = Spelling.of("word");
            keys[COINED] = Spelling.of("coined");
            keys[GONE] = Spelling.of("gone");
            keys[HEARD] = Spelling.of("heard");
            keys[SHUNNED] = Spelling.of("shunned");
            keys[OLD] = Spelling.of("old");
            keys[OF] = Spelling.of("of");
            keys[MEANS] = Spelling.of("means");
            keys[DAY] = Spelling.of("day");
            keys[YEAR] = Spelling.of("year");
        }

        /** The number of the first fault, 0 without one. */
        int tell(byte[] tape, int n) {
            into.clear();
            fault = 0;
            place = 0;
            tokens.start(tape, n);
            boolean goesOn = true;
            for (int line = 0; line < TAPE_ROOM && goesOn; line++) {
                goesOn = takeLine() && takeSemicolon();
            }
            if (fault == 0) {
                into.settle();
            }
            return fault;
        }

        int place() {
            return place;
        }

        /** The tongue told last; one that isn't used any more is taken for the next text. */
        Tongue handOver(Tongue unused) {
            Tongue fresh = into;
            into = unused;
            return fresh;
        }

        private boolean faulty(int number) {
            fault = number;
            place = tokens.place;
            return false;
        }

        /** Behind a line: whether one more is to come. */
        private boolean takeSemicolon() {
            if (tokens.kind == Tokens.SEMICOLON) {
                tokens.advance();
                return true;
            }
            if (tokens.kind != Tokens.END) {
                return faulty(FORM);
            }
            return into.things == 0 && faulty(LACKS);
        }

        private boolean takeLine() {
            int sort = tokens.kind == Tokens.WORD ? keyOf(tokens.spelt) : NO_KEY;
            if (sort > OLD) {
                return faulty(FORM);
            }
            if (sort == TONGUE) {
                return into.year == 0 ? takeTongue() : faulty(TWICE);
            }
            if (into.year == 0) {
                return faulty(LACKS);
            }
            if (isFull(sort)) {
                return faulty(MANY);
            }
            tokens.advance();
            switch (sort) {
                case THING:
                    return takeThing();
                case SAYING:
                    return takeSaying();
                case WORD:
                    return takeMeaning(false);
                case COINED:
                    return takeMeaning(true);
                case GONE:
                    return takeGoing();
                case OLD:
                    return takeOld();
                default:
                    return takeHearing(sort == SHUNNED);
            }
        }

        private boolean isFull(int sort) {
            switch (sort) {
                case THING:
                    return into.things >= Tongue.THINGS;
                case SAYING:
                    return into.sayings >= Tongue.SAYINGS;
                case WORD:
                    return into.words >= Tongue.WORDS;
                case COINED:
                    return into.coined >= Tongue.COINED;
                case GONE:
                    return into.goings >= Tongue.GOINGS;
                case OLD:
                    return into.olds >= Tongue.OLDS;
                default:
                    return into.hearings >= Tongue.HEARINGS;
            }
        }

        private boolean takeTongue() {
            tokens.advance();
            if (!takeKey(YEAR) || !isWhole(1)) {
                return false;
            }
            into.year = tokens.whole;
            tokens.advance();
            return true;
        }

        private boolean takeThing() {
            if (!isNewName()) {
                return false;
            }
            into.addThing(tokens.spelt);
            tokens.advance();
            return true;
        }

        private boolean takeSaying() {
            if (!isNewName()) {
                return false;
            }
            into.addSaying(tokens.spelt);
            tokens.advance();
            if (!takeKey(OF)) {
                return false;
            }
            for (int i = 0; i < Tongue.PARTS; i++) {
                if (!isThingName()) {
                    return false;
                }
                into.addPart(into.thingNamed(tokens.spelt));
                tokens.advance();
                if (tokens.kind != Tokens.COMMA) {
                    return true;
                }
                tokens.advance();
            }
            return isThingName() && faulty(MANY);
        }

        private boolean takeMeaning(boolean isCoined) {
            if (!isSpelling()) {
                return false;
            }
            long spelling = tokens.spelt;
            if (into.hasSpelling(spelling)) {
                return faulty(TWICE);
            }
            tokens.advance();
            if (!takeKey(MEANS) || !isThingName()) {
                return false;
            }
            int t = into.thingNamed(tokens.spelt);
            if (isCoined) {
                into.addCoined(spelling, t);
            } else {
                into.addWord(spelling, t);
            }
            tokens.advance();
            return true;
        }

        private boolean takeGoing() {
            if (!isSpelling()) {
                return false;
            }
            if (Spelling.length(tokens.spelt) > 1) {
                return faulty(BOUNDS);
            }
            int letter = Spelling.last(tokens.spelt);
            if (into.hasGoing(letter)) {
                return faulty(TWICE);
            }
            tokens.advance();
            if (!takeKey(DAY) || !isWhole(0)) {
                return false;
            }
            into.addGoing(letter, tokens.whole);
            tokens.advance();
            return true;
        }

        private boolean takeHearing(boolean isShunned) {
            if (!isSpelling()) {
                return false;
            }
            into.addHearing(tokens.spelt, isShunned);
            tokens.advance();
            return true;
        }

        private boolean takeOld() {
            if (!isSpelling()) {
                return false;
            }
            into.addOld(tokens.spelt);
            tokens.advance();
            return true;
        }

        private boolean takeKey(int key) {
            if (tokens.kind != Tokens.WORD || tokens.spelt != keys[key]) {
                return faulty(FORM);
            }
            tokens.advance();
            return true;
        }

        private boolean isWhole(int least) {
            if (tokens.kind != Tokens.WHOLE) {
                return faulty(FORM);
            }
            return tokens.whole >= least && tokens.whole <= MOST_DAYS || faulty(BOUNDS);
        }

        private boolean isSpelling() {
            return tokens.kind == Tokens.WORD || faulty(FORM);
        }

        private boolean isName() {
            return tokens.kind == Tokens.WORD && keyOf(tokens.spelt) > DAY || faulty(FORM);
        }

        private boolean isNewName() {
            return isName() && (!into.hasName(tokens.spelt) || faulty(TWICE));
        }

        private boolean isThingName() {
            return isName() && (into.thingNamed(tokens.spelt) >= 0 || faulty(UNTOLD));
        }

        private int keyOf(long spelling) {
            for (int key = 0; key < NO_KEY; key++) {
                if (keys[key] == spelling) {
                    return key;
                }
            }
            return NO_KEY;
        }
    }

    /** All that acts change: letters gone and words coined, as bits, and the day. */
    private static final class Now {
        int gone = 0;
        int minted = 0;
        int day = 0;

        void begin(int goneAtFirst) {
            gone = goneAtFirst;
            minted = 0;
            day = 0;
        }

        void copy(Now from) {
            gone = from.gone;
            minted = from.minted;
            day = from.day;
        }
    }

    /** What was ahead of the latest acts, and what was when marks were set. */
    private static final class Past {
        static final int MARKS = 3;
        private static final int KEPT = 16;

        private final Now[] ring = new Now[KEPT];
        private final Now[] marked = new Now[MARKS];
        private int oldest = 0;
        private int kept = 0;
        private int marks = 0;

        Past() {
            for (int i = 0; i < KEPT; i++) {
                ring[i] = new Now();
            }
            for (int i = 0; i < MARKS; i++) {
                marked[i] = new Now();
            }
        }

        void forget() {
            kept = 0;
            marks = 0;
        }

        int kept() {
            return kept;
        }

        int marks() {
            return marks;
        }

        void keep(Now now) {
            if (kept == KEPT) {
                oldest = (oldest + 1) % KEPT;
                kept--;
            }
            ring[(oldest + kept) % KEPT].copy(now);
            kept++;
        }

        void takeBack(Now now) {
            if (kept > 0) {
                kept--;
                now.copy(ring[(oldest + kept) % KEPT]);
            }
        }

        int setMark(Now now) {
            if (marks >= MARKS) {
                return NONE;
            }
            marked[marks].copy(now);
            marks++;
            return marks - 1;
        }

        void goBack(int number, Now now) {
            if (number >= 0 && number < marks) {
                now.copy(marked[number]);
                kept = 0;
            }
        }
    }

    /** Which letter it was, by what was heard and shunned. */
    private static final class Clues {
        private Clues() {
        }

        static int lettersLeft(Tongue tongue) {
            int left = ALL_LETTERS;
            for (int i = 0; i < tongue.hearings; i++) {
                left &= bit(tongue.shunned, i) ? tongue.hearingLetters[i] : ~tongue.hearingLetters[i];
            }
            return left;
        }

        static int leftAtMost(Tongue tongue, int w) {
            int left = lettersLeft(tongue);
            int letters = Spelling.bits(tongue.spelt[w]);
            return Math.max(Integer.bitCount(left & letters), Integer.bitCount(left & ~letters));
        }

        static int bestWord(Tongue tongue) {
            if (lettersLeft(tongue) == 0) {
                return ABSENT;
            }
            int best = ABSENT;
            int fewest = LETTERS + 1;
            for (int w = 0; w < tongue.words; w++) {
                int most = leftAtMost(tongue, w);
                if (most < fewest) {
                    best = w;
                    fewest = most;
                }
            }
            return best;
        }

        static int firstAgainst(Tongue tongue, int letter) {
            for (int i = 0; i < tongue.hearings; i++) {
                if (bit(tongue.hearingLetters[i], letter) != bit(tongue.shunned, i)) {
                    return i;
                }
            }
            return ABSENT;
        }
    }

    /** What one more loss, or a few, would do, and what coined words would mend. */
    private static final class Losses {
        private static final int MOST = 3;

        private Losses() {
        }

        /** The first letter not gone by which most things, or least, can be said. */
        static int extreme(Tongue tongue, int gone, int sayable, boolean most) {
            int best = ABSENT;
            int bestCount = 0;
            for (int letter = 0; letter < LETTERS; letter++) {
                if (!bit(gone, letter)) {
                    int count = Integer.bitCount(tongue.thingsBy(sayable & ~tongue.users[letter]));
                    if (best < 0 || (most ? count > bestCount : count < bestCount)) {
                        best = letter;
                        bestCount = count;
                    }
                }
            }
            return best;
        }

        static int fewestSilencing(Tongue tongue, int gone, int sayable) {
            for (int n = 0; n <= MOST; n++) {
                int found = firstSilencing(tongue, gone, sayable, 0, n);
                if (found >= 0) {
                    return found;
                }
            }
            return ABSENT;
        }

        /** The first set of n letters from one on, of those not gone, without which no word is left. */
        private static int firstSilencing(Tongue tongue, int gone, int sayable, int from, int n) {
            if (n <= 0) {
                return sayable == 0 ? 0 : ABSENT;
            }
            for (int letter = from; letter < LETTERS; letter++) {
                if (!bit(gone, letter)) {
                    int rest = firstSilencing(tongue, gone, sayable & ~tongue.users[letter], letter + 1, n - 1);
                    if (rest >= 0) {
                        return rest | 1 << letter;
                    }
                }
            }
            return ABSENT;
        }

        static int fewestCoined(Tongue tongue, int gone, int minted) {
            int all = (1 << tongue.things) - 1;
            int best = ABSENT;
            int fewest = Tongue.COINED + 1;
            for (int set = 0; set < 1 << tongue.coined; set++) {
                if ((set & minted) == 0 && Integer.bitCount(set) < fewest
                        && tongue.thingsBy(tongue.sayable(gone, minted | set)) == all) {
                    best = set;
                    fewest = Integer.bitCount(set);
                }
            }
            return best;
        }
    }

    /** Old words, and which words told they were before a letter stood out of them. */
    private static final class OldWords {
        private OldWords() {
        }

        static int read(Tongue tongue, int k, int letter) {
            int found = 0;
            for (int w = 0; w < tongue.words; w++) {
                if (bit(tongue.users[letter], w) && Spelling.without(tongue.spelt[w], letter) == tongue.old[k]) {
                    found |= 1 << w;
                }
            }
            return found;
        }

        static int countWays(Tongue tongue, int letter) {
            int ways = 1;
            for (int k = 0; k < tongue.olds; k++) {
                ways *= Integer.bitCount(read(tongue, k, letter));
            }
            return ways;
        }

        /** As no two words are spelt alike, two that become so had the letter in one of them at least. */
        static int firstAlike(Tongue tongue, int letter) {
            for (int v = 0; v < tongue.words; v++) {
                for (int w = v + 1; w < tongue.words; w++) {
                    if (Spelling.without(tongue.spelt[v], letter) == Spelling.without(tongue.spelt[w], letter)) {
                        return 10 * v + w;
                    }
                }
            }
            return ABSENT;
        }
    }

    /** The game by last letters over the words that can be said; its tables stay until these are others. */
    private static final class Game {
        private static final int WORDS = Tongue.WORDS + Tongue.COINED;
        private static final int SETS = 1 << WORDS;

        /** By word: those that may be said behind it, and those that it may be said behind, as bits. */
        private final int[] behind = new int[WORDS];
        private final int[] ahead = new int[WORDS];
        /** By words said: which of them, said last, leave the other without a way to win, as bits. */
        private final int[] winning = new int[SETS];
        /** By words said: which of them can be the last of a row of just these, as bits. */
        private final int[] endings = new int[SETS];
        private int sayable = 0;
        private boolean laid = false;
        private boolean solved = false;
        private int longestRow = NONE;

        void forget() {
            laid = false;
        }

        /** Makes the game one of these words; what was found of it before stays if they are the same. */
        void lay(Tongue tongue, int words) {
            if (laid && sayable == words) {
                return;
            }
            laid = true;
            solved = false;
            longestRow = NONE;
            sayable = words & (SETS - 1);
            Arrays.fill(behind, 0);
            Arrays.fill(ahead, 0);
            for (int w = 0; w < WORDS; w++) {
                for (int v = 0; v < WORDS; v++) {
                    if (v != w && bit(sayable, v) && bit(sayable, w)
                            && Spelling.first(tongue.spelt[v]) == Spelling.last(tongue.spelt[w])) {
                        behind[w] |= 1 << v;
                        ahead[v] |= 1 << w;
                    }
                }
            }
        }

        int answersTo(int w) {
            return w >= 0 && w < WORDS ? behind[w] : 0;
        }

        /** Whether who says a word, these others being said, wins by it. */
        boolean isWon(int said, int w) {
            if (!solved) {
                solve();
                solved = true;
            }
            return bit(winning[(said | 1 << w) & (SETS - 1)], w);
        }

        int firstWon(int said, int choices) {
            for (int w = 0; w < WORDS; w++) {
                if (bit(choices, w) && isWon(said, w)) {
                    return w;
                }
            }
            return ABSENT;
        }

        /** From most words said to fewest, as each answer says one more. */
        private void solve() {
            for (int said = sayable; said > 0; said--) {
                if ((said & ~sayable) == 0) {
                    winning[said] = lastsThatWin(said, wordsThatWinBehind(said));
                }
            }
        }

        /** Words not said yet by which who says them next would win, whatever was last. */
        private int wordsThatWinBehind(int said) {
            int open = sayable & ~said;
            int found = 0;
            for (int w = 0; w < WORDS; w++) {
                if (bit(open, w)) {
                    found |= winning[said | 1 << w] & 1 << w;
                }
            }
            return found;
        }

        /** Words said that, being last, can't be answered by any of those that win. */
        private int lastsThatWin(int said, int winningNext) {
            int found = 0;
            for (int w = 0; w < WORDS; w++) {
                if (bit(said, w) && (behind[w] & winningNext) == 0) {
                    found |= 1 << w;
                }
            }
            return found;
        }

        int mostInARow() {
            if (longestRow < 0) {
                longestRow = findLongestRow();
            }
            return longestRow;
        }

        /** From fewest words said to most, as a row's last word goes behind the last of a shorter one. */
        private int findLongestRow() {
            int most = 0;
            for (int said = 1; said <= sayable; said++) {
                if ((said & ~sayable) == 0) {
                    endings[said] = endingsOf(said);
                    if (endings[said] != 0) {
                        most = Math.max(most, Integer.bitCount(said));
                    }
                }
            }
            return most;
        }

        private int endingsOf(int said) {
            int found = 0;
            for (int w = 0; w < WORDS; w++) {
                if (bit(said, w)) {
                    int others = said & ~(1 << w);
                    if (others == 0 || (endings[others] & ahead[w]) != 0) {
                        found |= 1 << w;
                    }
                }
            }
            return found;
        }
    }

    /** Losses that nobody chose: by chance, counted over all sets of letters, and by draws from a seed. */
    private static final class Chance {
        static final int MOST = 3;
        private static final int MOST_DIVISIONS = 64;
        private static final int MODULUS = 65537;

        private Chance() {
        }

        /** Over all sets of n letters not gone: how many of these things can be said, all together. */
        static int count(Tongue tongue, int things, int gone, int sayable, int n) {
            return n > MOST ? 0 : countFrom(tongue, things, gone, sayable, 0, n);
        }

        /** The same with letters from one on; it goes as deep as n letters. */
        private static int countFrom(Tongue tongue, int things, int gone, int sayable, int from, int n) {
            if (n <= 0) {
                return Integer.bitCount(tongue.thingsBy(sayable) & things);
            }
            int sum = 0;
            for (int letter = from; letter < LETTERS; letter++) {
                if (!bit(gone, letter)) {
                    sum += countFrom(tongue, things, gone, sayable & ~tongue.users[letter], letter + 1, n - 1);
                }
            }
            return sum;
        }

        static int sets(int letters, int n) {
            int sets = 1;
            for (int i = 0; i < n; i++) {
                sets = sets * (letters - i) / (i + 1);
            }
            return sets;
        }

        static long lowestTerms(int upper, int lower, boolean wantsLower) {
            int divisor = commonDivisor(lower, upper);
            return divisor == 0 ? 0 : (wantsLower ? lower : upper) / divisor;
        }

        private static int commonDivisor(int a, int b) {
            int greater = a;
            int lesser = b;
            for (int i = 0; i < MOST_DIVISIONS && lesser != 0; i++) {
                int rest = greater % lesser;
                greater = lesser;
                lesser = rest;
            }
            return greater;
        }

        static boolean isSeed(int seed) {
            return seed >= 0 && seed < MODULUS;
        }

        static int next(int seed) {
            return (75 * seed + 74) % MODULUS;
        }

        /** The letter that goes by a draw, as a bit; 0 if none is left. */
        static int pick(int gone, int drawn) {
            int left = LETTERS - Integer.bitCount(gone & ALL_LETTERS);
            int ahead = left > 0 ? drawn % left : 0;
            for (int letter = 0; letter < LETTERS; letter++) {
                if (!bit(gone, letter)) {
                    if (ahead == 0) {
                        return 1 << letter;
                    }
                    ahead--;
                }
            }
            return 0;
        }

        static int goneBehind(int goneAtFirst, int seed, int n) {
            int gone = goneAtFirst;
            int drawn = seed;
            for (int i = 0; i < n; i++) {
                drawn = next(drawn);
                gone |= pick(gone, drawn);
            }
            return gone;
        }
    }
}
