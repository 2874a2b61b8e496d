import java.io.IOException;
import java.lang.reflect.Constructor;
import java.lang.reflect.Field;
import java.lang.reflect.Method;
import java.lang.reflect.Modifier;
import java.nio.file.Files;
import java.nio.file.Path;
import java.util.ArrayList;
import java.util.List;
import java.util.Set;
import java.util.TreeSet;
import java.util.regex.Matcher;
import java.util.regex.Pattern;

/** What of ../shared/LANGUAGE.md a test can see: the face, the sizes, and words that must not stand there. */
public final class LanguageTest {
    private static final String[] FORBIDDEN = {
        "throws?", "try", "catch", "finally", "synchronized", "assert", "import", "package", "protected", "double", "float",
        "volatile", "native", "Object", "System\\.(?!arraycopy)\\w+", "\\w+Exact", "equals", "hashCode", "toString", "var"};
    private static final int PROMISES = 39;
    private static final List<String> FACE = new ArrayList<>();
    private static int wrong = 0;

    private static void must(boolean holds, String what) {
        if (!holds) {
            wrong++;
            System.out.println("the language: " + what);
        }
    }

    public static void main(String[] args) throws IOException {
        readFace();
        face();
        inside();
        words();
        System.out.println(wrong == 0 ? "the language is kept to" : wrong + " rules of the language are broken");
        if (wrong != 0) {
            System.exit(1);
        }
    }

    /** The face as the document shows it, and the promises' heads, that tell the same calls in the same order. */
    private static void readFace() throws IOException {
        String doc = Files.readString(Path.of("../shared/DOC.md"));
        Matcher line = Pattern.compile("(?m)^    public (int|long) (\\w+)\\((.*)\\);$").matcher(doc);
        while (line.find()) {
            FACE.add(line.group(1) + " " + line.group(2) + "(" + line.group(3).replaceAll(" \\w+(,|$)", "$1").replace(" ", "") + ")");
        }
        must(FACE.size() == PROMISES - 1, "the document shows " + FACE.size() + " calls");
        Matcher head = Pattern.compile("## Promise (\\d+): (\\w+)\\s+`(int|long) (\\w+)\\(").matcher(doc);
        for (int p = 2; p <= PROMISES; p++) {
            String call = p - 2 < FACE.size() ? FACE.get(p - 2) : "";
            must(head.find() && head.group(1).equals("" + p) && call.startsWith(head.group(3) + " " + head.group(4) + "("),
                "promise " + p + " is of " + call);
        }
    }

    private static String signature(Method m) {
        List<String> types = new ArrayList<>();
        for (Class<?> c : m.getParameterTypes()) {
            types.add(c.getName());
        }
        return m.getReturnType().getName() + " " + m.getName() + "(" + String.join(",", types) + ")";
    }

    private static void face() {
        Class<?> c = HeaviestLightest.class;
        must(Modifier.isPublic(c.getModifiers()) && Modifier.isFinal(c.getModifiers()), "the class is public and final");
        Set<String> due = new TreeSet<>(FACE);
        Set<String> found = new TreeSet<>();
        for (Method m : c.getDeclaredMethods()) {
            if (Modifier.isPublic(m.getModifiers())) {
                found.add(signature(m));
            } else {
                must(Modifier.isPrivate(m.getModifiers()), m.getName() + " is private");
            }
        }
        must(found.equals(due), "the face is the document's: " + found);
        for (Field f : c.getDeclaredFields()) {
            must(Modifier.isPrivate(f.getModifiers()), f.getName() + " is private");
        }
        Constructor<?>[] made = c.getDeclaredConstructors();
        must(made.length == 1 && Modifier.isPublic(made[0].getModifiers()) && made[0].getParameterCount() == 0, "one constructor");
    }

    private static void inside() {
        Set<String> names = new TreeSet<>();
        for (String s : FACE) {
            names.add(s.substring(s.indexOf(' ') + 1, s.indexOf('(')));
        }
        List<Class<?>> classes = new ArrayList<>(List.of(HeaviestLightest.class.getDeclaredClasses()));
        for (Class<?> c : classes) {
            int m = c.getModifiers();
            must(Modifier.isStatic(m) && !Modifier.isPublic(m) && !Modifier.isProtected(m), c + " is static and not public");
        }
        classes.add(HeaviestLightest.class);
        must(classes.size() <= 12, "twelve classes at most");
        for (Class<?> c : classes) {
            int fields = 0;
            for (Field f : c.getDeclaredFields()) {
                boolean fixed = Modifier.isStatic(f.getModifiers());
                fields += fixed ? 0 : 1;
                must(!fixed || Modifier.isFinal(f.getModifiers()) && (f.getType().isPrimitive() || f.getType() == String.class), f + " is a constant");
            }
            must(fields <= 20, c + " has twenty fields at most");
            for (Method m : c.getDeclaredMethods()) {
                must(m.getParameterCount() <= 7, m + " has seven parameters at most");
                must(Modifier.isPublic(m.getModifiers()) || !names.contains(m.getName()), m + " bears the name of a public one");
            }
        }
    }

    private static void words() throws IOException {
        String source = Files.readString(Path.of("src/main/java/HeaviestLightest.java"));
        must(source.chars().allMatch(ch -> ch == '\n' || ch >= 32 && ch < 127), "plain signs alone");
        String code = source.replaceAll("(?s)/\\*.*?\\*/", "").replaceAll("//[^\n]*", "");
        for (String word : FORBIDDEN) {
            Matcher m = Pattern.compile("\\b" + word + "\\b").matcher(code);
            must(!m.find(), "the word " + word);
        }
        must(!code.contains("->") && !code.contains("::"), "no lambda, no method reference");
        must(!Pattern.compile("while \\(true\\)|for \\(;;|static \\{").matcher(code).find(), "ends are seen, no static block");
        String[] lines = source.split("\n");
        for (String line : code.split("\n")) {
            must(!line.matches(".*\\bnew\\b.*") || line.matches("\\s+private final .* = new \\w+(\\(\\)|\\[.*\\]);"),
                "rows and objects are made with the object alone: " + line.trim());
        }
        for (int i = 0; i < lines.length; i++) {
            Matcher head = Pattern.compile("^(    |        )(?=\\w)(?!if|for|while|switch|else)[\\w\\[\\] ]+\\(.*\\) \\{$").matcher(lines[i]);
            if (head.find()) {
                int end = i;
                while (end < lines.length && !lines[end].equals(head.group(1) + "}")) {
                    end++;
                }
                must(end - i < 60, "a short method: " + lines[i].trim());
            }
        }
    }
}
