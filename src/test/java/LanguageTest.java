import java.lang.reflect.Constructor;
import java.lang.reflect.Field;
import java.lang.reflect.Method;
import java.lang.reflect.Modifier;
import java.nio.file.Files;
import java.nio.file.Path;
import java.util.List;
import java.util.Set;
import java.util.TreeSet;
import java.util.regex.Matcher;
import java.util.regex.Pattern;

/** The face of the class, and the rules of LANGUAGE.md that can be seen from the outside. */
public final class LanguageTest {
    private static final List<String> FACE = List.of("feed(int,long)int", "claim()int", "paper(int)int", "fault()int",
        "due(int)int", "count(int)int", "fact(int,int)int", "told(int,int)int", "heard(int,int)int", "strike()int",
        "open()int", "holds(int,int)int", "turns(int)int", "enough(int)int", "silence(int,int)int",
        "proof(int,int,int,int)int", "bring(int,boolean)int", "proved(int,int)int", "likely(int)int", "chance(int)int",
        "worth(int)int", "best(int,int,int)int", "game(int,int)int", "without(int)int", "seed(int)int", "trial()int",
        "keep(int)int", "goBack(int)int");
    private static final String WORDS = "throw|throws|try|catch|finally|synchronized|assert|volatile|transient|native"
        + "|import|package|strictfp|var|yield|Object|System\\.(?!arraycopy)|Thread|Random|Exception|Error";
    private static int wrong = 0;

    public static void main(String[] args) throws Exception {
        face();
        insides();
        source();
        System.out.println(wrong == 0 ? "the language is kept" : wrong + " rules are broken");
        if (wrong != 0) System.exit(1);
    }

    private static void is(boolean kept, String rule) {
        if (!kept) {
            wrong++;
            System.out.println(rule);
        }
    }

    private static void face() {
        Class<?> face = PleaPapers.class;
        is(Modifier.isPublic(face.getModifiers()) && Modifier.isFinal(face.getModifiers()), "1: public and final");
        Set<String> methods = new TreeSet<>();
        Set<String> hidden = new TreeSet<>();
        for (Method method : face.getDeclaredMethods()) {
            StringBuilder s = new StringBuilder(method.getName()).append('(');
            for (Class<?> type : method.getParameterTypes()) s.append(s.toString().endsWith("(") ? "" : ",").append(type);
            s.append(')').append(method.getReturnType());
            if (Modifier.isPublic(method.getModifiers())) methods.add(s.toString());
            else hidden.add(method.getName());
            is(Modifier.isPublic(method.getModifiers()) || Modifier.isPrivate(method.getModifiers()), "1: " + s);
            is(!method.isSynthetic(), "2: " + s);
        }
        is(methods.equals(new TreeSet<>(FACE)), "1: the methods are " + methods);
        for (String part : FACE) is(!hidden.contains(part.substring(0, part.indexOf('('))), "1: a private " + part);
        Set<String> constants = new TreeSet<>();
        for (Field field : face.getDeclaredFields()) {
            if (Modifier.isPublic(field.getModifiers())) constants.add(field.getName());
            else is(Modifier.isPrivate(field.getModifiers()), "1: " + field);
        }
        is(constants.equals(Set.of("NONE", "UNKNOWN", "OUTSIDE", "NOT", "FULL")), "1: the constants are " + constants);
        Constructor<?>[] made = face.getDeclaredConstructors();
        is(made.length == 1 && Modifier.isPublic(made[0].getModifiers()) && made[0].getParameterCount() == 0, "1: made");
    }

    private static void insides() {
        Class<?>[] insides = PleaPapers.class.getDeclaredClasses();
        is(insides.length <= 12, "11: classes");
        for (Class<?> inside : insides) {
            is(Modifier.isStatic(inside.getModifiers()) && Modifier.isPrivate(inside.getModifiers()), "2: " + inside);
            int fields = 0;
            for (Field field : inside.getDeclaredFields()) {
                if (Modifier.isStatic(field.getModifiers())) is(Modifier.isFinal(field.getModifiers()), "5: " + field);
                else fields++;
            }
            is(fields <= 20, "11: fields of " + inside);
            for (Method method : inside.getDeclaredMethods()) {
                is(FACE.stream().noneMatch(f -> f.startsWith(method.getName() + "(")), "1: " + method);
                is(method.getParameterCount() <= 7, "11: " + method);
                is(!method.isSynthetic(), "2: " + method);
            }
        }
    }

    private static void source() throws Exception {
        String text = Files.readString(Path.of("src/main/java/PleaPapers.java"));
        is(text.chars().allMatch(c -> c < 128), "4: signs");
        String bare = text.replaceAll("(?s)/\\*.*?\\*/|//[^\n]*", "").replaceAll("\"[^\"\n]*\"|'[^'\n]*'", "0");
        Matcher word = Pattern.compile("\\b(" + WORDS + ")|->|::|@").matcher(bare);
        while (word.find()) is(false, "6: " + word.group());
        is(!Pattern.compile("\\b(while|for) *\\( *(true|;;)").matcher(bare).find(), "9: a loop without an end");
        methodsAreShort(text);
    }

    private static void methodsAreShort(String text) {
        String[] lines = text.split("\n");
        int start = -1;
        int indent = 0;
        for (int i = 0; i < lines.length; i++) {
            Matcher head = Pattern.compile("^( +)(public|private)[^=;]*\\) \\{$").matcher(lines[i]);
            if (head.find()) {
                start = i;
                indent = head.group(1).length();
            } else if (start >= 0 && lines[i].equals(" ".repeat(indent) + "}")) {
                is(i - start < 60, "11: " + lines[start].trim());
                start = -1;
            }
            is(lines[i].length() <= 120, "a line of more than 120 signs: " + (i + 1));
        }
    }
}
