/** What the tests share: texts put on a tape, answers compared, a closing exit code. */
final class Check {
    private final String name;
    private int calls = 0;
    private int wrong = 0;

    Check(String name) {
        this.name = name;
    }

    void same(String what, long got, long due) {
        calls++;
        if (got != due) {
            wrong++;
            if (wrong <= 40) {
                System.out.println(name + ": " + what + " answered " + got + ", due is " + due);
            }
        }
    }

    void same(String what, boolean got, boolean due) {
        same(what, got ? 1 : 0, due ? 1 : 0);
    }

    /** An answer together with the trouble behind it. */
    void refused(GapLetter x, String what, long got, int trouble) {
        same(what, got, -1);
        same("trouble behind " + what, x.trouble(), trouble);
    }

    void refused(GapLetter x, String what, boolean got, int trouble) {
        same(what, got, false);
        same("trouble behind " + what, x.trouble(), trouble);
    }

    void granted(GapLetter x, String what, long got, long due) {
        same(what, got, due);
        same("trouble behind " + what, x.trouble(), 0);
    }

    void granted(GapLetter x, String what, boolean got) {
        same(what, got, true);
        same("trouble behind " + what, x.trouble(), 0);
    }

    int answers() {
        return calls;
    }

    void end() {
        System.out.println(name + ": " + calls + " answers, " + wrong + " wrong");
        if (wrong > 0 || calls == 0) {
            System.exit(1);
        }
    }

    /** Feeds a text, blanks behind it up to a multiple of twenty. */
    static int feed(GapLetter x, String text) {
        int answer = x.size(11);
        for (int at = 0; at < text.length(); at += 20) {
            answer = x.feed(four(text, at), four(text, at + 4), four(text, at + 8), four(text, at + 12),
                    four(text, at + 16));
        }
        return answer;
    }

    private static int four(String text, int at) {
        int number = 0;
        for (int i = at; i < at + 4; i++) {
            number = number << 8 | (i < text.length() ? text.charAt(i) & 255 : 32);
        }
        return number;
    }

    static int tell(GapLetter x, String text) {
        feed(x, text);
        return x.tongue(text.length());
    }

    static GapLetter told(String text) {
        GapLetter x = new GapLetter();
        if (tell(x, text) < 0) {
            throw new IllegalStateException("fault " + x.fault() + " at " + x.where() + " in " + text);
        }
        return x;
    }

    static int letters(String signs) {
        int bits = 0;
        for (char sign : signs.toCharArray()) {
            bits |= 1 << (sign - 'a');
        }
        return bits;
    }
}
