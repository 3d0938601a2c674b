import com.sun.management.ThreadMXBean;
import java.lang.management.ManagementFactory;
import java.lang.reflect.Constructor;
import java.lang.reflect.Field;
import java.lang.reflect.Method;
import java.lang.reflect.Modifier;
import java.nio.file.Files;
import java.nio.file.Path;
import java.util.List;
import java.util.Set;
import java.util.TreeSet;
import java.util.regex.Matcher;
import java.util.regex.Pattern;

/** The face of the class, and the rules of LANGUAGE.md that can be seen from the outside. */
public final class LanguageTest {
    private static final List<String> FACE = List.of("feed(int,long)int", "claim()int", "paper(int)int", "fault()int",
        "due(int)int", "count(int)int", "fact(int,int)int", "told(int,int)int", "heard(int,int)int", "strike()int",
        "open()int", "holds(int,int)int", "turns(int)int", "enough(int)int", "silence(int,int)int",
        "proof(int,int,int,int)int", "bring(int,boolean)int", "proved(int,int)int", "likely(int)int", "chance(int)int",
        "worth(int)int", "best(int,int,int)int", "game(int,int)int", "without(int)int", "seed(int)int", "trial()int",
        "keep(int)int", "goBack(int)int");
    private static final String WORDS = "throw|throws|try|catch|finally|synchronized|assert|volatile|transient|native"
        + "|import|package|strictfp|var|yield|Object|System\\.(?!arraycopy)|Thread|Random|Exception|Error";
    private static final Set<String> TYPES = Set.of("String", "StringBuilder", "Integer", "Long", "Math", "List",
        "ArrayList", "Iterator", "Iterable", "Comparable", "System", "Arrays");
    private static final String LISTED = "(Integer|Long|Math)\\.(?!\\w*Exact\\()[a-z]\\w*\\("
        + "|System\\.arraycopy\\(|Arrays\\.(copyOf|copyOfRange|fill)\\(|List\\.of\\(";
    private static int wrong = 0;

    public static void main(String[] args) throws Exception {
        face();
        insides();
        source();
        callsMakeNothing();
        System.out.println(wrong == 0 ? "the language is kept" : wrong + " rules are broken");
        if (wrong != 0) System.exit(1);
    }

    private static void is(boolean kept, String rule) {
        if (!kept) {
            wrong++;
            System.out.println(rule);
        }
    }

    private static void face() {
        Class<?> face = PleaPapers.class;
        is(Modifier.isPublic(face.getModifiers()) && Modifier.isFinal(face.getModifiers()), "1: public and final");
        Set<String> methods = new TreeSet<>();
        Set<String> hidden = new TreeSet<>();
        for (Method method : face.getDeclaredMethods()) {
            StringBuilder s = new StringBuilder(method.getName()).append('(');
            for (Class<?> type : method.getParameterTypes()) s.append(s.toString().endsWith("(") ? "" : ",").append(type);
            s.append(')').append(method.getReturnType());
            if (Modifier.isPublic(method.getModifiers())) methods.add(s.toString());
            else hidden.add(method.getName());
            is(Modifier.isPublic(method.getModifiers()) || Modifier.isPrivate(method.getModifiers()), "1: " + s);
            is(!method.isSynthetic(), "2: " + s);
        }
        is(methods.equals(new TreeSet<>(FACE)), "1: the methods are " + methods);
        for (String part : FACE) is(!hidden.contains(part.substring(0, part.indexOf('('))), "1: a private " + part);
        Set<String> constants = new TreeSet<>();
        for (Field field : face.getDeclaredFields()) {
            if (Modifier.isPublic(field.getModifiers())) constants.add(field.getName());
            else is(Modifier.isPrivate(field.getModifiers()), "1: " + field);
        }
        is(constants.equals(Set.of("NONE", "UNKNOWN", "OUTSIDE", "NOT", "FULL")), "1: the constants are " + constants);
        Constructor<?>[] made = face.getDeclaredConstructors();
        is(made.length == 1 && Modifier.isPublic(made[0].getModifiers()) && made[0].getParameterCount() == 0, "1: made");
    }

    private static void insides() {
        Class<?>[] insides = PleaPapers.class.getDeclaredClasses();
        is(insides.length <= 12, "11: classes");
        for (Class<?> inside : insides) {
            is(Modifier.isStatic(inside.getModifiers()) && Modifier.isPrivate(inside.getModifiers()), "2: " + inside);
            int fields = 0;
            for (Field field : inside.getDeclaredFields()) {
                if (Modifier.isStatic(field.getModifiers())) is(Modifier.isFinal(field.getModifiers()), "5: " + field);
                else fields++;
            }
            is(fields <= 20, "11: fields of " + inside);
            for (Method method : inside.getDeclaredMethods()) {
                is(FACE.stream().noneMatch(f -> f.startsWith(method.getName() + "(")), "1: " + method);
                is(method.getParameterCount() <= 7, "11: " + method);
                is(!method.isSynthetic(), "2: " + method);
            }
        }
    }

    private static void source() throws Exception {
        String text = Files.readString(Path.of("src/main/java/PleaPapers.java"));
        is(text.chars().allMatch(c -> c < 128), "4: signs");
        String bare = text.replaceAll("(?s)/\\*.*?\\*/|//[^\n]*", "").replaceAll("\"[^\"\n]*\"|'[^'\n]*'", "0");
        Matcher word = Pattern.compile("\\b(" + WORDS + ")|->|::|@").matcher(bare);
        while (word.find()) is(false, "6: " + word.group());
        is(!Pattern.compile("\\b(while|for) *\\( *(true|;;)").matcher(bare).find(), "9: a loop without an end");
        library(bare);
        methodsAreShort(text);
    }

    /** Only what LANGUAGE.md lists; and arrays of numbers alone are copied. */
    private static void library(String bare) {
        Set<String> own = new TreeSet<>(Set.of("PleaPapers"));
        for (Class<?> inside : PleaPapers.class.getDeclaredClasses()) own.add(inside.getSimpleName());
        Matcher type = Pattern.compile("\\b[A-Z]\\w*[a-z]\\w*\\b").matcher(bare);
        while (type.find()) is(own.contains(type.group()) || TYPES.contains(type.group()), "3: " + type.group());
        Matcher use = Pattern.compile("\\b(Integer|Long|Math|System|Arrays|List)\\.\\w+\\(?").matcher(bare);
        while (use.find()) is(use.group().matches(LISTED), "4: " + use.group());
        Matcher flags = Pattern.compile("\\bboolean\\[\\] (\\w+)").matcher(bare);
        while (flags.find()) {
            String copied = "arraycopy\\([^;]*\\b" + flags.group(1) + "\\b";
            is(!Pattern.compile(copied).matcher(bare).find(), "4: a copy of " + flags.group(1));
        }
    }

    /** The second time, because the machine makes objects of its own when code runs first. */
    private static void callsMakeNothing() {
        ThreadMXBean thread = (ThreadMXBean) ManagementFactory.getThreadMXBean();
        PleaPapers x = new PleaPapers();
        callAll(x);
        long before = thread.getCurrentThreadAllocatedBytes();
        long nothing = thread.getCurrentThreadAllocatedBytes() - before;
        before = thread.getCurrentThreadAllocatedBytes();
        callAll(x);
        is(thread.getCurrentThreadAllocatedBytes() - before == nothing, "12: a call makes an object");
    }

    private static void callAll(PleaPapers x) {
        x.feed(8, 0x7061792031206966L);
        x.feed(8, 0x203020616e642031L);
        x.claim();
        x.feed(8, 0x73617920302c313bL);
        x.paper(0);
        x.feed(7, 0x64656e7920303bL);
        x.paper(40);
        x.feed(1, 0);
        x.claim();
        x.fault();
        x.due(5);
        for (int side = 0; side < 2; side++) x.bring(x.proof(side, side, 500, 1), side == 0);
        for (int what = 0; what < 9; what++) {
            x.count(what);
            x.fact(0, what);
            x.told(0, what);
            x.heard(1, what);
            x.proved(0, what);
            x.best(what % 2, 99, what / 3);
            x.game(what % 2, what / 3);
        }
        x.holds(0, x.open());
        x.turns(0);
        x.enough(0);
        x.silence(0, 0);
        x.silence(0, 1);
        x.likely(0);
        x.chance(0);
        x.worth(0);
        x.without(0);
        x.seed(7);
        x.trial();
        x.keep(0);
        x.goBack(0);
        x.strike();
        x.strike();
    }

    private static void methodsAreShort(String text) {
        String[] lines = text.split("\n");
        int start = -1;
        int indent = 0;
        for (int i = 0; i < lines.length; i++) {
            Matcher head = Pattern.compile("^( +)(public|private)[^=;]*\\) \\{$").matcher(lines[i]);
            if (head.find()) {
                start = i;
                indent = head.group(1).length();
            } else if (start >= 0 && lines[i].equals(" ".repeat(indent) + "}")) {
                is(i - start < 60, "11: " + lines[start].trim());
                start = -1;
            }
            is(lines[i].length() <= 120, "a line of more than 120 signs: " + (i + 1));
        }
    }
}
