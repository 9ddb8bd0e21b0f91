import java.util.ArrayDeque;
import java.util.ArrayList;
import java.util.HashMap;
import java.util.HashSet;
import java.util.List;
import java.util.Map;
import java.util.Set;
import java.util.TreeSet;

/** The document once more, as plainly and as slowly as it can be read: texts, sets and whole game trees. */
final class NaiveGap {
    private static final Set<String> RESERVED = Set.of("tongue", "thing", "saying", "word", "coined", "gone", "heard",
            "shunned", "old", "of", "means", "day");
    private static final Map<String, Integer> ROOM = Map.of("thing", 6, "saying", 5, "word", 8, "coined", 4, "gone", 6,
            "heard", 6, "old", 5);

    /** A fault that ends the reading of a text. */
    private static final class Fault extends RuntimeException {
        private static final long serialVersionUID = 1L;
        final int number;
        final int place;

        Fault(int number, int place) {
            super(null, null, false, false);
            this.number = number;
            this.place = place;
        }
    }

    private record Token(char kind, String text, int place) {
    }

    private record Word(String spelt, int thing) {
    }

    private record State(Set<Character> gone, Set<Integer> coined, int day) {
        static State of(Set<Character> gone, Set<Integer> coined, int day) {
            return new State(new TreeSet<>(gone), new TreeSet<>(coined), day);
        }
    }

    /** What one text tells. */
    private static final class Told {
        int year = 0;
        List<String> things = new ArrayList<>();
        List<String> sayingNames = new ArrayList<>();
        List<List<Integer>> sayings = new ArrayList<>();
        List<Word> words = new ArrayList<>();
        List<Word> coined = new ArrayList<>();
        Map<Character, Integer> going = new HashMap<>();
        List<String> hearings = new ArrayList<>();
        List<String> old = new ArrayList<>();
        Map<String, Integer> lines = new HashMap<>();
    }

    private final StringBuilder tape = new StringBuilder();
    private Told told = null;
    private State now = State.of(Set.of(), Set.of(), 0);
    private final ArrayDeque<State> undo = new ArrayDeque<>();
    private final List<State> marks = new ArrayList<>();
    int trouble = 0;
    int fault = 0;
    int place = 0;

    private long refuse(int why) {
        trouble = why;
        return -1;
    }

    // ---- the text

    private static List<Token> tokens(String text) {
        List<Token> found = new ArrayList<>();
        int at = 0;
        while (at < text.length()) {
            char sign = text.charAt(at);
            int end = at + 1;
            if (sign == ' ') {
                at++;
                continue;
            }
            if (sign >= 'a' && sign <= 'z') {
                while (end < text.length() && text.charAt(end) >= 'a' && text.charAt(end) <= 'z') {
                    end++;
                }
                found.add(new Token(end - at > 8 ? '?' : 'w', text.substring(at, end), at));
            } else if (sign >= '0' && sign <= '9') {
                while (end < text.length() && text.charAt(end) >= '0' && text.charAt(end) <= '9') {
                    end++;
                }
                found.add(new Token(end - at > 3 ? '?' : 'n', text.substring(at, end), at));
            } else {
                found.add(new Token(sign == ';' || sign == ',' ? sign : '?', text.substring(at, end), at));
            }
            at = end;
        }
        found.add(new Token('$', "", text.length()));
        return found;
    }

    private List<Token> tokens;
    private int next;

    private Token take(char kind) {
        Token token = tokens.get(next);
        if (token.kind != kind) {
            throw new Fault(1, token.place);
        }
        next++;
        return token;
    }

    private void takeKey(String key) {
        Token token = take('w');
        if (!token.text.equals(key)) {
            throw new Fault(1, token.place);
        }
    }

    private Token takeName() {
        Token token = take('w');
        if (RESERVED.contains(token.text)) {
            throw new Fault(1, token.place);
        }
        return token;
    }

    private String takeNewName(Told into) {
        Token token = takeName();
        if (into.things.contains(token.text) || into.sayingNames.contains(token.text)) {
            throw new Fault(3, token.place);
        }
        return token.text;
    }

    private int takeThing(Told into) {
        Token token = takeName();
        if (!into.things.contains(token.text)) {
            throw new Fault(2, token.place);
        }
        return into.things.indexOf(token.text);
    }

    private int takeWhole(int least) {
        Token token = take('n');
        int whole = Integer.parseInt(token.text);
        if (whole < least || whole > 99) {
            throw new Fault(4, token.place);
        }
        return whole;
    }

    private Told read(String text) {
        tokens = tokens(text);
        next = 0;
        Told into = new Told();
        readLine(into);
        while (tokens.get(next).kind == ';') {
            next++;
            readLine(into);
        }
        Token end = take('$');
        if (into.things.isEmpty()) {
            throw new Fault(6, end.place);
        }
        return into;
    }

    private void readLine(Told into) {
        Token head = take('w');
        String sort = head.text.equals("shunned") ? "heard" : head.text;
        if (sort.equals("tongue")) {
            if (into.year > 0) {
                throw new Fault(3, head.place);
            }
            takeKey("year");
            into.year = takeWhole(1);
            return;
        }
        if (!ROOM.containsKey(sort)) {
            throw new Fault(1, head.place);
        }
        if (into.year == 0) {
            throw new Fault(6, head.place);
        }
        if (into.lines.merge(sort, 1, Integer::sum) > ROOM.get(sort)) {
            throw new Fault(5, head.place);
        }
        switch (head.text) {
            case "thing" -> into.things.add(takeNewName(into));
            case "saying" -> readSaying(into);
            case "word", "coined" -> readWord(into, head.text.equals("word") ? into.words : into.coined);
            case "gone" -> readGone(into);
            case "old" -> into.old.add(take('w').text);
            default -> into.hearings.add(head.text.charAt(0) + take('w').text);
        }
    }

    private void readSaying(Told into) {
        into.sayingNames.add(takeNewName(into));
        takeKey("of");
        List<Integer> parts = new ArrayList<>();
        parts.add(takeThing(into));
        while (tokens.get(next).kind == ',') {
            next++;
            int part = takeThing(into);
            if (parts.size() == 4) {
                throw new Fault(5, tokens.get(next - 1).place);
            }
            parts.add(part);
        }
        into.sayings.add(parts);
    }

    private void readWord(Told into, List<Word> list) {
        Token spelt = take('w');
        for (List<Word> words : List.of(into.words, into.coined)) {
            for (Word word : words) {
                if (word.spelt.equals(spelt.text)) {
                    throw new Fault(3, spelt.place);
                }
            }
        }
        takeKey("means");
        list.add(new Word(spelt.text, takeThing(into)));
    }

    private void readGone(Told into) {
        Token letter = take('w');
        if (letter.text.length() > 1) {
            throw new Fault(4, letter.place);
        }
        if (into.going.containsKey(letter.text.charAt(0))) {
            throw new Fault(3, letter.place);
        }
        takeKey("day");
        into.going.put(letter.text.charAt(0), takeWhole(0));
    }

    int feed(int... numbers) {
        if (tape.length() + 20 > 1000) {
            return -1;
        }
        for (int number : numbers) {
            for (int i = 3; i >= 0; i--) {
                tape.append((char) (number >> (8 * i) & 255));
            }
        }
        return tape.length();
    }

    long tongue(int n) {
        if (n < 0 || n > tape.length()) {
            return refuse(2);
        }
        String text = tape.substring(0, n);
        tape.setLength(0);
        try {
            told = read(text);
        } catch (Fault met) {
            fault = met.number;
            place = met.place;
            return refuse(4);
        }
        fault = 0;
        trouble = 0;
        now = State.of(goneOn(0), Set.of(), 0);
        undo.clear();
        marks.clear();
        return told.things.size();
    }

    int where() {
        return trouble == 4 ? place : -1;
    }

    // ---- what can be said

    private Set<Character> goneOn(int day) {
        Set<Character> found = new TreeSet<>();
        told.going.forEach((letter, its) -> {
            if (day % told.year == its % told.year) {
                found.add(letter);
            }
        });
        return found;
    }

    private List<Word> all() {
        List<Word> all = new ArrayList<>(told.words);
        all.addAll(told.coined);
        return all;
    }

    private boolean spoken(int w, State state) {
        return w < told.words.size() || state.coined.contains(w - told.words.size());
    }

    private boolean can(int w, State state) {
        for (char letter : all().get(w).spelt.toCharArray()) {
            if (state.gone.contains(letter)) {
                return false;
            }
        }
        return spoken(w, state);
    }

    private List<Integer> sayable(State state) {
        List<Integer> found = new ArrayList<>();
        for (int w = 0; w < all().size(); w++) {
            if (can(w, state)) {
                found.add(w);
            }
        }
        return found;
    }

    private List<Integer> wordsOf(int t, State state) {
        List<Integer> found = new ArrayList<>();
        for (int w : sayable(state)) {
            if (all().get(w).thing == t) {
                found.add(w);
            }
        }
        return found;
    }

    private int shortest(int t, State state) {
        int best = -2;
        for (int w : wordsOf(t, state)) {
            if (best < 0 || all().get(w).spelt.length() < all().get(best).spelt.length()) {
                best = w;
            }
        }
        return best;
    }

    private List<Integer> things(State state) {
        List<Integer> found = new ArrayList<>();
        for (int t = 0; t < told.things.size(); t++) {
            if (!wordsOf(t, state).isEmpty()) {
                found.add(t);
            }
        }
        return found;
    }

    private int length(int k, State state) {
        int sum = told.sayings.get(k).size() - 1;
        for (int t : told.sayings.get(k)) {
            int w = shortest(t, state);
            if (w < 0) {
                return -2;
            }
            sum += all().get(w).spelt.length();
        }
        return sum;
    }

    private static long bits(Iterable<Integer> numbers) {
        long bits = 0;
        for (int number : numbers) {
            bits |= 1L << number;
        }
        return bits;
    }

    private static long letterBits(Iterable<Character> letters) {
        long bits = 0;
        for (char letter : letters) {
            bits |= 1L << (letter - 'a');
        }
        return bits;
    }

    private static Set<Character> letters(String text) {
        Set<Character> found = new TreeSet<>();
        for (char letter : text.toCharArray()) {
            found.add(letter);
        }
        return found;
    }

    private State without(State state, Character... letters) {
        State other = State.of(state.gone, state.coined, state.day);
        for (char letter : letters) {
            other.gone.add(letter);
        }
        return other;
    }

    private State later(State state, int days) {
        State other = State.of(state.gone, state.coined, state.day + days);
        for (int d = state.day + 1; d <= state.day + days; d++) {
            other.gone.addAll(goneOn(d));
        }
        return other;
    }

    private List<Character> left() {
        List<Character> left = new ArrayList<>();
        for (char letter = 'a'; letter <= 'z'; letter++) {
            if (!now.gone.contains(letter)) {
                left.add(letter);
            }
        }
        return left;
    }

    // ---- the calls, by name

    /** The answer of a call of the face; a boolean counts 1 or 0. */
    long call(String name, int a, int b, boolean lower) {
        switch (name) {
            case "undo":
                trouble = undo.isEmpty() ? 6 : 0;
                now = undo.isEmpty() ? now : undo.pop();
                return trouble == 0 ? 1 : 0;
            case "back":
                if (a < 0 || a >= marks.size()) {
                    trouble = 1;
                    return 0;
                }
                trouble = 0;
                now = marks.get(a);
                undo.clear();
                return 1;
            case "lose", "find", "coin":
                return act(name, a) ? 1 : 0;
            default:
                break;
        }
        int why = told == null ? 1 : why(name, a, b);
        trouble = why;
        if (why != 0) {
            return -1;
        }
        return switch (name) {
            case "gone" -> letterBits(now.gone);
            case "word" -> word(a, b);
            case "thing" -> thing(a, b);
            case "saying" -> length(a, now);
            case "dumbIn" -> dumbIn(a, now);
            case "said" -> bits(things(now));
            case "longest" -> longest();
            case "users" -> sayable(now).stream().filter(w -> has(w, a)).count();
            case "saidIf" -> saidIf(a);
            case "lasts" -> lasts(a);
            case "saidOn" -> bits(things(later(now, a)));
            case "longestSaying" -> longestSaying();
            case "lettersOf" -> lettersOf(a);
            case "rhymes" -> rhymes(a, b);
            case "which" -> letterBits(which());
            case "bill" -> bill(false);
            case "billLeaves" -> bill(true);
            case "judge" -> judge(a);
            case "worst" -> extreme(-1);
            case "kindest" -> extreme(1);
            case "dumb" -> dumb();
            case "hinges" -> hinges(a);
            case "again" -> again();
            case "rarest" -> rarest();
            case "readings" -> bits(readings(a, (char) ('a' + b)));
            case "ways" -> ways((char) ('a' + a));
            case "stoodOut" -> stoodOut();
            case "twins" -> twins(String.valueOf((char) ('a' + a)));
            case "wins" -> wins(new ArrayList<>(List.of(a))) ? 1 : 0;
            case "opening" -> opening();
            case "answer" -> answer(a);
            case "longestChain" -> chain(new ArrayList<>());
            case "answers" -> replies(List.of(a)).size();
            case "yet" -> odds(List.of(a), b, lower);
            case "mean" -> odds(null, a, lower);
            case "silence" -> silence(a);
            case "saidBehind" -> things(without(now, draws(a, b).toArray(new Character[0]))).size();
            case "goesAt" -> draws(a, b).get(b - 1) - 'a';
            case "days" -> days(a);
            case "mark" -> mark();
            default -> throw new IllegalArgumentException(name);
        };
    }

    private static boolean in(int number, int least, int most) {
        return number >= least && number <= most;
    }

    private int why(String name, int a, int b) {
        int words = all().size();
        int things = told.things.size();
        int left = left().size();
        return switch (name) {
            case "word" -> in(a, 0, words - 1) && in(b, 0, 4) ? 0 : 1;
            case "thing" -> in(a, 0, things - 1) && in(b, 0, 3) ? 0 : 1;
            case "saying", "dumbIn", "lasts" -> in(a, 0, told.sayings.size() - 1) ? 0 : 1;
            case "hinges" -> !in(a, 0, told.sayings.size() - 1) ? 1 : length(a, now) < 0 ? 5 : 0;
            case "lettersOf" -> in(a, 0, things - 1) ? 0 : 1;
            case "users", "saidIf", "judge", "ways", "twins" -> in(a, 0, 25) ? 0 : 2;
            case "saidOn" -> in(a, 0, 99) ? 0 : 2;
            case "rhymes" -> !in(a, 0, words - 1) ? 1 : in(b, 1, 8) ? 0 : 2;
            case "readings" -> !in(a, 0, told.old.size() - 1) ? 1 : in(b, 0, 25) ? 0 : 2;
            case "wins", "answer", "answers" -> !in(a, 0, words - 1) ? 1 : can(a, now) ? 0 : 5;
            case "yet" -> !in(a, 0, things - 1) ? 1 : in(b, 0, Math.min(3, left)) ? 0 : 2;
            case "mean" -> in(a, 0, Math.min(3, left)) ? 0 : 2;
            case "silence" -> in(a, 0, 65536) ? 0 : 2;
            case "saidBehind" -> in(a, 0, 65536) && in(b, 0, left) ? 0 : 2;
            case "goesAt" -> in(a, 0, 65536) && in(b, 1, left) ? 0 : 2;
            case "days" -> !in(a, 1, 99) ? 2 : now.day + a > 999 ? 3 : 0;
            case "mark" -> marks.size() == 3 ? 3 : 0;
            default -> 0;
        };
    }

    private boolean has(int w, int letter) {
        return all().get(w).spelt.indexOf('a' + letter) >= 0;
    }

    private long word(int w, int what) {
        Word word = all().get(w);
        return switch (what) {
            case 0 -> word.spelt.length();
            case 1 -> word.thing;
            case 2 -> can(w, now) ? 1 : 0;
            case 3 -> letterBits(letters(word.spelt));
            default -> spoken(w, now) ? 1 : 0;
        };
    }

    private long thing(int t, int what) {
        int shortest = shortest(t, now);
        return switch (what) {
            case 0 -> shortest;
            case 1 -> shortest < 0 ? -2 : all().get(shortest).spelt.length();
            case 2 -> bits(wordsOf(t, now));
            default -> wordsOf(t, now).size();
        };
    }

    private long dumbIn(int k, State state) {
        for (int i = 0; i < told.sayings.get(k).size(); i++) {
            if (wordsOf(told.sayings.get(k).get(i), state).isEmpty()) {
                return i;
            }
        }
        return -2;
    }

    private long longest() {
        Set<Integer> words = new TreeSet<>();
        things(now).forEach(t -> words.add(shortest(t, now)));
        int best = -2;
        for (int w : words) {
            if (best < 0 || all().get(w).spelt.length() > all().get(best).spelt.length()) {
                best = w;
            }
        }
        return best;
    }

    private long saidIf(int letter) {
        State other = State.of(now.gone, now.coined, now.day);
        char sign = (char) ('a' + letter);
        if (!other.gone.remove(sign)) {
            other.gone.add(sign);
        }
        return bits(things(other));
    }

    private long lasts(int k) {
        for (int d = 0; d <= 99; d++) {
            if (length(k, later(now, d)) < 0) {
                return d;
            }
        }
        return -2;
    }

    private long longestSaying() {
        int best = -2;
        for (int k = told.sayings.size() - 1; k >= 0; k--) {
            if (length(k, now) > 0 && (best < 0 || length(k, now) >= length(best, now))) {
                best = k;
            }
        }
        return best;
    }

    private long lettersOf(int t) {
        Set<Character> shared = null;
        for (int w : wordsOf(t, now)) {
            if (shared == null) {
                shared = letters(all().get(w).spelt);
            }
            shared.retainAll(letters(all().get(w).spelt));
        }
        return shared == null ? 0 : letterBits(shared);
    }

    private long rhymes(int w, int n) {
        String spelt = all().get(w).spelt;
        if (spelt.length() < n) {
            return 0;
        }
        String end = spelt.substring(spelt.length() - n);
        List<Integer> found = sayable(now);
        found.removeIf(v -> v == w || !all().get(v).spelt.endsWith(end));
        return bits(found);
    }

    private Set<Character> which() {
        Set<Character> found = letters("abcdefghijklmnopqrstuvwxyz");
        for (String hearing : told.hearings) {
            found.removeIf(letter -> hearing.indexOf(letter, 1) >= 0 != (hearing.charAt(0) == 's'));
        }
        return found;
    }

    private long bill(boolean leaves) {
        long best = -2;
        int fewest = 99;
        for (int w = 0; w < told.words.size() && !which().isEmpty(); w++) {
            Set<Character> inside = which();
            inside.retainAll(letters(told.words.get(w).spelt));
            int most = Math.max(inside.size(), which().size() - inside.size());
            if (most < fewest) {
                fewest = most;
                best = w;
            }
        }
        return best < 0 || !leaves ? best : fewest;
    }

    private long judge(int letter) {
        for (int i = 0; i < told.hearings.size(); i++) {
            boolean inIt = told.hearings.get(i).substring(1).indexOf('a' + letter) >= 0;
            boolean shunned = told.hearings.get(i).charAt(0) == 's';
            if (shunned && !inIt || !shunned && inIt) {
                return i;
            }
        }
        return -2;
    }

    private long extreme(int sign) {
        long best = -2;
        int bestCount = 0;
        for (char letter : left()) {
            int count = sign * things(without(now, letter)).size();
            if (best == -2 || count > bestCount) {
                best = letter - 'a';
                bestCount = count;
            }
        }
        return best;
    }

    /** All sets of n of these letters, by letters one by one. */
    private static List<List<Character>> sets(List<Character> letters, int n) {
        List<List<Character>> found = new ArrayList<>();
        if (n == 0) {
            found.add(new ArrayList<>());
            return found;
        }
        for (int i = 0; i < letters.size(); i++) {
            for (List<Character> rest : sets(letters.subList(i + 1, letters.size()), n - 1)) {
                List<Character> set = new ArrayList<>(List.of(letters.get(i)));
                set.addAll(rest);
                found.add(set);
            }
        }
        return found;
    }

    private long dumb() {
        for (int n = 0; n <= 3; n++) {
            for (List<Character> set : sets(left(), n)) {
                if (sayable(without(now, set.toArray(new Character[0]))).isEmpty()) {
                    return letterBits(set);
                }
            }
        }
        return -2;
    }

    private long hinges(int k) {
        List<Character> found = left();
        found.removeIf(letter -> length(k, without(now, letter)) >= 0);
        return letterBits(found);
    }

    private long again() {
        int best = -2;
        for (int set = 0; set < 1 << told.coined.size(); set++) {
            State other = State.of(now.gone, now.coined, now.day);
            boolean fresh = true;
            for (int k = 0; k < told.coined.size(); k++) {
                if ((set >> k & 1) == 1) {
                    fresh &= other.coined.add(k);
                }
            }
            boolean enough = things(other).size() == told.things.size();
            if (fresh && enough && (best < 0 || Integer.bitCount(set) < Integer.bitCount(best))) {
                best = set;
            }
        }
        return best;
    }

    private long rarest() {
        int best = -2;
        for (int t : things(now)) {
            if (best < 0 || wordsOf(t, now).size() < wordsOf(best, now).size()) {
                best = t;
            }
        }
        return best;
    }

    private List<Integer> readings(int k, char letter) {
        List<Integer> found = new ArrayList<>();
        for (int w = 0; w < told.words.size(); w++) {
            String spelt = told.words.get(w).spelt;
            if (spelt.indexOf(letter) >= 0 && spelt.replace(String.valueOf(letter), "").equals(told.old.get(k))) {
                found.add(w);
            }
        }
        return found;
    }

    private long ways(char letter) {
        long ways = 1;
        for (int k = 0; k < told.old.size(); k++) {
            ways *= readings(k, letter).size();
        }
        return ways;
    }

    private long stoodOut() {
        Set<Character> found = letters("abcdefghijklmnopqrstuvwxyz");
        found.removeIf(letter -> ways(letter) == 0);
        return letterBits(found);
    }

    private long twins(String letter) {
        for (int v = 0; v < told.words.size(); v++) {
            for (int w = v + 1; w < told.words.size(); w++) {
                String one = told.words.get(v).spelt;
                String two = told.words.get(w).spelt;
                if ((one.contains(letter) || two.contains(letter))
                        && one.replace(letter, "").equals(two.replace(letter, ""))) {
                    return 10 * v + w;
                }
            }
        }
        return -2;
    }

    // ---- the game, by its whole tree

    private List<Integer> replies(List<Integer> said) {
        String last = all().get(said.get(said.size() - 1)).spelt;
        List<Integer> found = sayable(now);
        found.removeIf(w -> said.contains(w) || all().get(w).spelt.charAt(0) != last.charAt(last.length() - 1));
        return found;
    }

    /** Whether who said the last of these wins. */
    private boolean wins(List<Integer> said) {
        for (int w : replies(said)) {
            List<Integer> more = new ArrayList<>(said);
            more.add(w);
            if (wins(more)) {
                return false;
            }
        }
        return true;
    }

    private long opening() {
        for (int w : sayable(now)) {
            if (wins(List.of(w))) {
                return w;
            }
        }
        return -2;
    }

    private long answer(int w) {
        for (int v : replies(List.of(w))) {
            if (wins(List.of(w, v))) {
                return v;
            }
        }
        return -2;
    }

    private int chain(List<Integer> said) {
        int most = said.size();
        for (int w : said.isEmpty() ? sayable(now) : replies(said)) {
            List<Integer> more = new ArrayList<>(said);
            more.add(w);
            most = Math.max(most, chain(more));
        }
        return most;
    }

    // ---- chance and draws

    private long odds(List<Integer> only, int n, boolean lower) {
        long up = 0;
        long down = 0;
        for (List<Character> set : sets(left(), n)) {
            List<Integer> can = things(without(now, set.toArray(new Character[0])));
            up += only == null ? can.size() : can.containsAll(only) ? 1 : 0;
            down++;
        }
        for (long d = down; d > 1; d--) {
            if (up % d == 0 && down % d == 0) {
                up /= d;
                down /= d;
            }
        }
        return lower ? down : up;
    }

    private List<Character> draws(int seed, int n) {
        List<Character> left = left();
        List<Character> drawn = new ArrayList<>();
        long at = seed;
        for (int i = 0; i < n; i++) {
            at = (75 * at + 74) % 65537;
            drawn.add(left.remove((int) (at % left.size())));
        }
        return drawn;
    }

    private long silence(int seed) {
        for (int n = 0; n <= left().size(); n++) {
            if (things(without(now, draws(seed, n).toArray(new Character[0]))).isEmpty()) {
                return n;
            }
        }
        return -9;
    }

    // ---- acts

    private void keep() {
        undo.push(State.of(now.gone, now.coined, now.day));
        if (undo.size() > 16) {
            undo.removeLast();
        }
        now = State.of(now.gone, now.coined, now.day);
    }

    private boolean act(String name, int a) {
        boolean coins = name.equals("coin");
        boolean lose = name.equals("lose");
        if (told == null || coins && !in(a, 0, told.coined.size() - 1)) {
            trouble = 1;
            return false;
        }
        if (!coins && !in(a, 0, 25)) {
            trouble = 2;
            return false;
        }
        char letter = (char) ('a' + a);
        boolean isSo = coins ? now.coined.contains(a) : now.gone.contains(letter) == lose;
        trouble = isSo ? 5 : 0;
        if (isSo) {
            return false;
        }
        keep();
        if (coins) {
            now.coined.add(a);
        } else if (lose) {
            now.gone.add(letter);
        } else {
            now.gone.remove(letter);
        }
        return true;
    }

    private long days(int n) {
        keep();
        Set<Character> went = new HashSet<>();
        for (int i = 0; i < n; i++) {
            now = State.of(now.gone, now.coined, now.day + 1);
            for (char letter : goneOn(now.day)) {
                if (now.gone.add(letter)) {
                    went.add(letter);
                }
            }
        }
        return letterBits(went);
    }

    private long mark() {
        marks.add(State.of(now.gone, now.coined, now.day));
        return marks.size() - 1;
    }

    /** The i-th thing that can't be said; -1 if there is none such. */
    int led(int i) {
        List<Integer> found = new ArrayList<>();
        for (int t = 0; told != null && t < told.things.size(); t++) {
            if (wordsOf(t, now).isEmpty()) {
                found.add(t);
            }
        }
        return in(i, 0, found.size() - 1) ? found.get(i) : -1;
    }

    int size(int what) {
        if (what == 11) {
            return tape.length();
        }
        if (told == null) {
            return in(what, 0, 10) ? 0 : -1;
        }
        return switch (what) {
            case 0 -> told.year;
            case 1 -> told.things.size();
            case 2 -> told.sayings.size();
            case 3 -> told.words.size();
            case 4 -> told.coined.size();
            case 5 -> told.going.size();
            case 6 -> told.hearings.size();
            case 7 -> told.old.size();
            case 8 -> now.day;
            case 9 -> undo.size();
            case 10 -> marks.size();
            default -> -1;
        };
    }
}
