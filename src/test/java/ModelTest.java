import java.lang.reflect.Method;
import java.util.ArrayList;
import java.util.List;
import java.util.NoSuchElementException;
import java.util.Random;

/** Runs of made-up texts and calls, each answer beside that of the naive reading. */
public final class ModelTest {
    private static final Check CHECK = new Check("ModelTest");
    private static final int RUNS = 400;
    private static final int CALLS = 300;
    private static final String[] PLAIN = {"gone", "said", "longest", "longestSaying", "which", "bill", "billLeaves",
        "worst", "kindest", "dumb", "again", "rarest", "stoodOut", "opening", "longestChain", "undo", "mark"};
    private static final String[] ONE = {"saying", "dumbIn", "users", "saidIf", "lasts", "saidOn", "lettersOf", "judge",
        "hinges", "ways", "twins", "wins", "answer", "answers", "silence", "lose", "find", "coin", "days", "back"};
    private static final String[] TWO = {"word", "thing", "rhymes", "readings", "saidBehind", "goesAt"};
    private static final String[] KEYS = {"tongue", "thing", "saying", "word", "coined", "gone", "heard", "shunned",
        "old", "of", "means", "day", "year", ";", ",", "5", "0", "100", "0001", "abcdefghi", "a", "b", "zz", "#"};

    private final Random random;
    private final GapLetter real = new GapLetter();
    private final NaiveGap naive = new NaiveGap();
    private final int run;
    /** Of the text that is being made: spellings, and lines of each sort. */
    private final List<String> used = new ArrayList<>();
    private int words = 0;
    private int coined = 0;
    private int goings = 0;
    private int hearings = 0;
    private int olds = 0;
    private int sayings = 0;

    private ModelTest(int run) {
        this.run = run;
        random = new Random(run);
    }

    public static void main(String[] args) throws Exception {
        for (int run = 0; run < RUNS; run++) {
            new ModelTest(run).play();
        }
        CHECK.end();
    }

    private void play() throws Exception {
        for (int i = 0; i < CALLS; i++) {
            int choice = random.nextInt(100);
            if (choice < 3 || i == 0 || i == 3) {
                tell(text());
            } else if (choice < 5) {
                oddTape();
            } else {
                call();
            }
            compareState();
        }
    }

    private void same(String what, long got, long due) {
        CHECK.same("run " + run + ": " + what, got, due);
    }

    private void compareState() {
        same("trouble", real.trouble(), naive.trouble);
        same("fault", real.fault(), naive.fault);
        same("where", real.where(), naive.where());
        int what = random.nextInt(14) - 1;
        same("size(" + what + ")", real.size(what), naive.size(what));
        int i = random.nextInt(6) - 1;
        int led;
        try {
            led = real.led(i);
        } catch (NoSuchElementException e) {
            led = -1;
        }
        same("led(" + i + ")", led, naive.led(i));
    }

    // ---- texts

    private void feed(String text) {
        for (int at = 0; at < text.length(); at += 20) {
            int[] numbers = new int[5];
            for (int i = 0; i < 20; i++) {
                int sign = at + i < text.length() ? text.charAt(at + i) : ' ';
                numbers[i / 4] = numbers[i / 4] << 8 | sign & 255;
            }
            same("feed", real.feed(numbers[0], numbers[1], numbers[2], numbers[3], numbers[4]), naive.feed(numbers));
        }
    }

    private void tell(String text) {
        if (real.size(11) > 0) {
            same("tongue(0)", real.tongue(0), naive.tongue(0));
        }
        feed(text);
        same("tongue of " + text, real.tongue(text.length()), naive.tongue(text.length()));
    }

    private void oddTape() {
        StringBuilder text = new StringBuilder();
        int length = random.nextInt(8) == 0 ? 1100 : random.nextInt(60);
        for (int i = 0; i < length; i++) {
            text.append((char) random.nextInt(256));
        }
        feed(text.toString());
        int n = random.nextInt(70) - 2;
        same("tongue(" + n + ")", real.tongue(n), naive.tongue(n));
    }

    private String spelt() {
        int letters = random.nextInt(4) == 0 ? 20 : 4;
        StringBuilder spelt = new StringBuilder();
        int length = 1 + random.nextInt(random.nextInt(5) == 0 ? 8 : 3);
        for (int i = 0; i < length; i++) {
            spelt.append((char) ('a' + random.nextInt(letters)));
        }
        return spelt.toString();
    }

    private String text() {
        startText();
        List<String> lines = new ArrayList<>();
        int things = 1 + random.nextInt(6);
        for (int t = 0; t < things; t++) {
            lines.add("thing t" + (char) ('a' + t));
        }
        int rest = 4 + random.nextInt(28);
        for (int i = 0; i < rest; i++) {
            lines.add(line(things));
        }
        StringBuilder text = new StringBuilder("tongue year ").append(1 + random.nextInt(random.nextInt(3) == 0 ? 99 : 9));
        for (String line : lines) {
            text.append(random.nextInt(9) == 0 ? " ; " : ";").append(line);
        }
        return random.nextInt(3) == 0 ? spoilt(text.toString()) : text.toString();
    }

    private String freshSpelt() {
        for (int i = 0; i < 30; i++) {
            String spelt = spelt();
            if (!used.contains(spelt)) {
                used.add(spelt);
                return spelt;
            }
        }
        return spelt();
    }

    private void startText() {
        used.clear();
        words = 0;
        coined = 0;
        goings = 0;
        hearings = 0;
        olds = 0;
        sayings = 0;
    }

    private String line(int things) {
        String thing = "t" + (char) ('a' + random.nextInt(things));
        int sort = random.nextInt(12);
        if (sort < 5 && words++ < 8) {
            return "word " + freshSpelt() + " means " + thing;
        }
        if (sort < 7 && coined++ < 4) {
            return "coined " + freshSpelt() + " means " + thing;
        }
        if (sort == 8 && goings++ < 6) {
            return "gone " + (char) ('a' + goings * 3 - random.nextInt(3)) + " day " + random.nextInt(random.nextBoolean() ? 12 : 100);
        }
        if (sort == 9 && hearings++ < 6) {
            return (random.nextBoolean() ? "heard " : "shunned ") + spelt() + (random.nextBoolean() ? "" : " ");
        }
        if (sort == 10 && olds++ < 5) {
            return "old " + oldWord();
        }
        if (sayings++ < 5) {
            StringBuilder saying = new StringBuilder("saying s" + (char) ('a' + sayings) + " of " + thing);
            for (int more = random.nextInt(4); more > 0; more--) {
                saying.append(random.nextBoolean() ? "," : " , ").append('t').append((char) ('a' + random.nextInt(things)));
            }
            return saying.toString();
        }
        return random.nextInt(12) == 0 ? "old a" : "thing t" + (random.nextInt(9) == 0 ? "a" : "");
    }

    /** Often a word told, out of which a letter stood. */
    private String oldWord() {
        if (!used.isEmpty() && random.nextInt(5) > 0) {
            String spelt = used.get(random.nextInt(used.size()));
            String rest = spelt.replace(String.valueOf(spelt.charAt(random.nextInt(spelt.length()))), "");
            return rest.isEmpty() ? spelt : rest;
        }
        return spelt();
    }

    private String spoilt(String text) {
        StringBuilder other = new StringBuilder(text);
        for (int times = 1 + random.nextInt(2); times > 0; times--) {
            int at = random.nextInt(other.length() + 1);
            switch (random.nextInt(4)) {
                case 0:
                    other.insert(at, " " + KEYS[random.nextInt(KEYS.length)] + " ");
                    break;
                case 1:
                    other.delete(at, Math.min(other.length(), at + 1 + random.nextInt(6)));
                    break;
                case 2:
                    other.setLength(at);
                    break;
                default:
                    other.insert(at, (char) random.nextInt(256));
                    break;
            }
            if (other.length() == 0) {
                other.append(' ');
            }
        }
        return other.toString();
    }

    // ---- calls

    private int number(String name) {
        switch (name) {
            case "users", "saidIf", "judge", "ways", "twins", "lose", "find":
                return random.nextInt(3) == 0 ? random.nextInt(30) - 2 : random.nextInt(6);
            case "silence":
                return random.nextInt(65537 + 2) - 1;
            case "saidOn", "days":
                return random.nextInt(4) == 0 ? random.nextInt(104) - 2 : random.nextInt(8);
            case "back", "saying", "dumbIn", "lasts", "hinges", "coin":
                return random.nextInt(7) - 1;
            default:
                return random.nextInt(14) - 1;
        }
    }

    private void call() throws Exception {
        int sort = random.nextInt(47);
        if (sort < 20) {
            call(ONE[sort]);
        } else if (sort < 37) {
            String name = PLAIN[sort - 20];
            Method method = GapLetter.class.getMethod(name);
            same(name, value(method.invoke(real)), naive.call(name, 0, 0, false));
        } else if (sort < 43) {
            callTwo(TWO[sort - 37]);
        } else if (sort < 45) {
            int t = random.nextInt(8) - 1;
            int n = random.nextInt(12) == 0 ? random.nextInt(8) - 2 : random.nextInt(3);
            boolean lower = random.nextBoolean();
            same("yet(" + t + "," + n + "," + lower + ")", real.yet(t, n, lower), naive.call("yet", t, n, lower));
        } else {
            int n = random.nextInt(12) == 0 ? random.nextInt(8) - 2 : random.nextInt(3);
            boolean lower = random.nextBoolean();
            same("mean(" + n + "," + lower + ")", real.mean(n, lower), naive.call("mean", n, 0, lower));
        }
    }

    private void call(String name) throws Exception {
        int a = random.nextInt(40) == 0 ? random.nextInt() : number(name);
        Method method = GapLetter.class.getMethod(name, int.class);
        same(name + "(" + a + ")", value(method.invoke(real, a)), naive.call(name, a, 0, false));
    }

    private void callTwo(String name) throws Exception {
        boolean seeded = name.equals("saidBehind") || name.equals("goesAt");
        int a = random.nextInt(40) == 0 ? random.nextInt() : seeded ? random.nextInt(65539) - 1 : random.nextInt(14) - 1;
        int most = seeded || name.equals("readings") ? 29 : name.equals("rhymes") ? 11 : 7;
        int b = random.nextInt(40) == 0 ? random.nextInt() : random.nextInt(most) - 1;
        if (name.equals("rhymes") && random.nextBoolean()) {
            b = 1 + random.nextInt(2);
        }
        if (name.equals("readings") && random.nextBoolean()) {
            b = random.nextInt(4);
        }
        Method method = GapLetter.class.getMethod(name, int.class, int.class);
        same(name + "(" + a + "," + b + ")", value(method.invoke(real, a, b)), naive.call(name, a, b, false));
    }

    private static long value(Object answer) {
        return answer instanceof Boolean b ? b ? 1 : 0 : ((Number) answer).longValue();
    }
}
