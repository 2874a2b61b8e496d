import java.io.IOException;
import java.lang.reflect.Constructor;
import java.lang.reflect.Field;
import java.lang.reflect.Method;
import java.lang.reflect.Modifier;
import java.nio.file.Files;
import java.nio.file.Path;
import java.util.ArrayList;
import java.util.List;
import java.util.Set;
import java.util.TreeSet;
import java.util.regex.Matcher;
import java.util.regex.Pattern;

/** What of ../shared/LANGUAGE.md a test can see: the face, the sizes, and words that must not stand there. */
public final class LanguageTest {
    private static final String[] FACE = {
        "int feed(int)", "int barn()", "int weight(int)", "int set(int,int)", "int scale(int,int)", "int would(int,int)",
        "int weigh(int,int)", "int book(int)", "int strike()", "int above(int)", "int ringed()", "int orders(int)",
        "int next(int)", "int lies()", "int open()", "int tells(int)", "int worst(int)", "long mean(int,int)",
        "int plan(int)", "int found(int,int)", "int compare(int,int)", "int clear()", "int sorts()", "int gap()",
        "int rounds()", "int through(int)", "int idle()", "int mends()", "int like(int,int)", "int loops()",
        "int turns(int)", "int law(int,int)", "int row(int)", "int judge()", "int seeds(int,int,int)", "int image()",
        "int restore()", "int count(int)"};
    private static final String[] FORBIDDEN = {
        "throws?", "try", "catch", "finally", "synchronized", "assert", "import", "package", "protected", "double", "float",
        "volatile", "native", "Object", "System\\.(?!arraycopy)\\w+", "\\w+Exact", "equals", "hashCode", "toString", "var"};
    private static int wrong = 0;

    private static void must(boolean holds, String what) {
        if (!holds) {
            wrong++;
            System.out.println("the language: " + what);
        }
    }

    public static void main(String[] args) throws IOException {
        face();
        inside();
        words();
        System.out.println(wrong == 0 ? "the language is kept to" : wrong + " rules of the language are broken");
        if (wrong != 0) {
            System.exit(1);
        }
    }

    private static String signature(Method m) {
        List<String> types = new ArrayList<>();
        for (Class<?> c : m.getParameterTypes()) {
            types.add(c.getName());
        }
        return m.getReturnType().getName() + " " + m.getName() + "(" + String.join(",", types) + ")";
    }

    private static void face() {
        Class<?> c = HeaviestLightest.class;
        must(Modifier.isPublic(c.getModifiers()) && Modifier.isFinal(c.getModifiers()), "the class is public and final");
        Set<String> due = new TreeSet<>(List.of(FACE));
        Set<String> found = new TreeSet<>();
        for (Method m : c.getDeclaredMethods()) {
            if (Modifier.isPublic(m.getModifiers())) {
                found.add(signature(m));
            } else {
                must(Modifier.isPrivate(m.getModifiers()), m.getName() + " is private");
            }
        }
        must(found.equals(due), "the face is the document's: " + found);
        for (Field f : c.getDeclaredFields()) {
            must(Modifier.isPrivate(f.getModifiers()), f.getName() + " is private");
        }
        Constructor<?>[] made = c.getDeclaredConstructors();
        must(made.length == 1 && Modifier.isPublic(made[0].getModifiers()) && made[0].getParameterCount() == 0, "one constructor");
    }

    private static void inside() {
        Set<String> names = new TreeSet<>();
        for (String s : FACE) {
            names.add(s.substring(s.indexOf(' ') + 1, s.indexOf('(')));
        }
        List<Class<?>> classes = new ArrayList<>(List.of(HeaviestLightest.class.getDeclaredClasses()));
        for (Class<?> c : classes) {
            int m = c.getModifiers();
            must(Modifier.isStatic(m) && !Modifier.isPublic(m) && !Modifier.isProtected(m), c + " is static and not public");
        }
        classes.add(HeaviestLightest.class);
        must(classes.size() <= 12, "twelve classes at most");
        for (Class<?> c : classes) {
            int fields = 0;
            for (Field f : c.getDeclaredFields()) {
                boolean fixed = Modifier.isStatic(f.getModifiers());
                fields += fixed ? 0 : 1;
                must(!fixed || Modifier.isFinal(f.getModifiers()) && (f.getType().isPrimitive() || f.getType() == String.class), f + " is a constant");
            }
            must(fields <= 20, c + " has twenty fields at most");
            for (Method m : c.getDeclaredMethods()) {
                must(m.getParameterCount() <= 7, m + " has seven parameters at most");
                must(Modifier.isPublic(m.getModifiers()) || !names.contains(m.getName()), m + " bears the name of a public one");
            }
        }
    }

    private static void words() throws IOException {
        String source = Files.readString(Path.of("src/main/java/HeaviestLightest.java"));
        must(source.chars().allMatch(ch -> ch == '\n' || ch >= 32 && ch < 127), "plain signs alone");
        String code = source.replaceAll("(?s)/\\*.*?\\*/", "").replaceAll("//[^\n]*", "");
        for (String word : FORBIDDEN) {
            Matcher m = Pattern.compile("\\b" + word + "\\b").matcher(code);
            must(!m.find(), "the word " + word);
        }
        must(!code.contains("->") && !code.contains("::"), "no lambda, no method reference");
        must(!Pattern.compile("while \\(true\\)|for \\(;;|static \\{").matcher(code).find(), "ends are seen, no static block");
        String[] lines = source.split("\n");
        for (int i = 0; i < lines.length; i++) {
            Matcher head = Pattern.compile("^(    |        )(?=\\w)(?!if|for|while|switch|else)[\\w\\[\\] ]+\\(.*\\) \\{$").matcher(lines[i]);
            if (head.find()) {
                int end = i;
                while (end < lines.length && !lines[end].equals(head.group(1) + "}")) {
                    end++;
                }
                must(end - i < 60, "a short method: " + lines[i].trim());
            }
        }
    }
}
