import java.io.IOException;
import java.lang.reflect.Constructor;
import java.lang.reflect.Field;
import java.lang.reflect.Method;
import java.lang.reflect.Modifier;
import java.nio.file.Files;
import java.nio.file.Path;
import java.util.List;
import java.util.Set;
import java.util.TreeSet;
import java.util.regex.Matcher;
import java.util.regex.Pattern;

/** The public face as the document has it, and such rules of LANGUAGE.md as can be seen from outside. */
public final class FaceTest {
    private static final String FACE = "feed(int,int,int,int,int):int tongue(int):int fault():int where():int gone():int "
            + "word(int,int):int thing(int,int):int saying(int):int dumbIn(int):int said():int longest():int users(int):int "
            + "saidIf(int):int lasts(int):int saidOn(int):int longestSaying():int lettersOf(int):int rhymes(int,int):int "
            + "which():int bill():int billLeaves():int judge(int):int worst():int kindest():int dumb():int hinges(int):int "
            + "again():int rarest():int readings(int,int):int ways(int):int stoodOut():int twins(int):int wins(int):int "
            + "opening():int answer(int):int longestChain():int answers(int):int yet(int,int,boolean):long "
            + "mean(int,boolean):long silence(int):int saidBehind(int,int):int goesAt(int,int):int lose(int):boolean "
            + "find(int):boolean coin(int):boolean days(int):int undo():boolean mark():int back(int):boolean led(int):int "
            + "size(int):int trouble():int";
    private static final List<String> FORBIDDEN = List.of("->", "::", "\\bcatch\\b", "\\btry\\b", "\\bfinally\\b",
            "\\bassert\\b", "\\bsynchronized\\b", "\\bdouble\\b", "\\bfloat\\b", "\\bSystem\\.(?!arraycopy)", "Exact\\(",
            "\\bpackage\\b", "^import (?!java\\.util\\.(Arrays|NoSuchElementException|ArrayList|List);)",
            "\\bthrow (?!new (NoSuchElementException|IllegalArgumentException|IllegalStateException)\\()", "static \\{");
    private static final int LONGEST_METHOD = 60;
    private static final Check CHECK = new Check("FaceTest");

    private FaceTest() {
    }

    public static void main(String[] args) throws IOException {
        members();
        nested();
        source();
        CHECK.end();
    }

    private static boolean isPrivate(int modifiers) {
        return Modifier.isPrivate(modifiers);
    }

    private static String text(Method method) {
        StringBuilder text = new StringBuilder(method.getName()).append('(');
        for (Class<?> type : method.getParameterTypes()) {
            text.append(text.charAt(text.length() - 1) == '(' ? "" : ",").append(type.getName());
        }
        return text.append("):").append(method.getReturnType().getName()).toString();
    }

    private static void members() {
        Class<?> face = GapLetter.class;
        CHECK.same("public final", face.getModifiers(), Modifier.PUBLIC | Modifier.FINAL);
        Set<String> due = new TreeSet<>(List.of(FACE.split(" ")));
        Set<String> found = new TreeSet<>();
        for (Method method : face.getDeclaredMethods()) {
            if (!isPrivate(method.getModifiers())) {
                CHECK.same(method + " is public", Modifier.isPublic(method.getModifiers()), true);
                CHECK.same(method + " is of an object", Modifier.isStatic(method.getModifiers()), false);
                found.add(text(method));
            }
        }
        CHECK.same("the face " + found, found.equals(due), true);
        CHECK.same("constructors", face.getDeclaredConstructors().length, 1);
        for (Constructor<?> constructor : face.getDeclaredConstructors()) {
            CHECK.same("public constructor", constructor.getModifiers(), Modifier.PUBLIC);
            CHECK.same("its parameters", constructor.getParameterCount(), 0);
        }
        for (Field field : face.getDeclaredFields()) {
            CHECK.same(field + " is private", isPrivate(field.getModifiers()), !field.getName().equals("NONE"));
        }
    }

    private static void nested() {
        Set<String> names = new TreeSet<>();
        for (String text : FACE.split(" ")) {
            names.add(text.substring(0, text.indexOf('(')));
        }
        Class<?>[] inside = GapLetter.class.getDeclaredClasses();
        CHECK.same("classes", inside.length < 12, true);
        for (Class<?> one : inside) {
            CHECK.same(one + " is static", Modifier.isStatic(one.getModifiers()), true);
            CHECK.same(one + " is hidden", Modifier.isPublic(one.getModifiers()), false);
            int fields = 0;
            for (Field field : one.getDeclaredFields()) {
                fields += Modifier.isStatic(field.getModifiers()) ? 0 : 1;
                CHECK.same(field + " is final if static",
                        !Modifier.isStatic(field.getModifiers()) || Modifier.isFinal(field.getModifiers()), true);
            }
            CHECK.same(one + " has few fields", fields <= 20, true);
            for (Method method : one.getDeclaredMethods()) {
                CHECK.same(method + " has a name of its own", names.contains(method.getName()), false);
                CHECK.same(method + " has few parameters", method.getParameterCount() <= 7, true);
            }
        }
    }

    private static void source() throws IOException {
        String source = Files.readString(Path.of("src/main/java/GapLetter.java"));
        String code = source.replaceAll("(?s)/\\*.*?\\*/", "").replaceAll("//[^\n]*", "");
        for (String forbidden : FORBIDDEN) {
            Matcher matcher = Pattern.compile(forbidden, Pattern.MULTILINE).matcher(code);
            CHECK.same("forbidden " + forbidden, matcher.find(), false);
        }
        int start = -1;
        String[] lines = source.split("\n");
        for (int i = 0; i < lines.length; i++) {
            if (lines[i].matches("( {4}| {8})[a-z].*\\) (throws \\w+ )?\\{")) {
                start = i;
            }
            if (start >= 0 && lines[i].matches("( {4}| {8})\\}") && lines[i].indexOf('}') == lines[start].length()
                    - lines[start].stripLeading().length()) {
                CHECK.same(lines[start].strip() + " is short", i - start < LONGEST_METHOD, true);
                start = -1;
            }
        }
    }
}
