import java.io.IOException;
import java.lang.reflect.InvocationTargetException;
import java.lang.reflect.Method;
import java.nio.file.Files;
import java.nio.file.Path;
import java.util.ArrayList;
import java.util.HashMap;
import java.util.List;
import java.util.Map;
import java.util.TreeSet;
import java.util.function.Consumer;

/**
 * Tests that are named by a promise and a sentence of the document. The sentence is looked up there, so that a test
 * can't name what the document doesn't say, and what no test names can be told in the end.
 */
final class Sentences {
    private static final Path DOC = Path.of("../shared/DOC.md");
    private static final int PROMISES = 39;
    /** Not of a promise: what the document says ahead of the face, and behind the promises. */
    static final int AHEAD = 0;
    static final int BEHIND = PROMISES + 1;

    private final String doc;
    private final boolean[] named;
    private final int[] termsFrom = new int[2];
    private final int[][] promises = new int[BEHIND + 1][2];
    private final Map<String, Method> face = new HashMap<>();
    private int wrong = 0;
    private int tests = 0;
    private int promise = 0;
    private String words = "";

    Sentences() throws IOException {
        doc = plain(Files.readString(DOC));
        named = new boolean[doc.length()];
        int end = doc.indexOf("## Not promised");
        termsFrom[0] = doc.indexOf("## Terms") + "## Terms".length();
        for (int p = PROMISES; p >= 1; p--) {
            int at = doc.indexOf("## Promise " + p + ":");
            int signature = doc.indexOf("`:", at);
            promises[p] = new int[] {signature + 2, end};
            end = at;
        }
        termsFrom[1] = end;
        promises[AHEAD] = new int[] {doc.indexOf("An object is used"), doc.indexOf("## The public face")};
        promises[BEHIND] = new int[] {doc.indexOf("How the state is held"), doc.length()};
        for (Method m : HeaviestLightest.class.getDeclaredMethods()) {
            face.put(m.getName(), m);
        }
    }

    private static String plain(String text) {
        return text.replace("```text", " ").replace("```", " ").replace("==== II.", " ").replaceAll("\\s+", " ");
    }

    /** Each script is a row of calls on a new object: see Calls. */
    void of(int promise, String words, String... scripts) {
        begin(promise, words);
        for (String script : scripts) {
            new Calls(this).carryOut(script);
        }
        must(scripts.length > 0, "a test with no call");
    }

    /** A test for which a row of calls is too little; it says due() of what it asks. */
    void test(int promise, String words, Consumer<Calls> body) {
        begin(promise, words);
        body.accept(new Calls(this));
    }

    /** What either script makes can't be told apart by any call, but by how many REFUSALS there were. */
    void same(int promise, String words, String script, String other) {
        begin(promise, words);
        Calls one = new Calls(this);
        Calls two = new Calls(this);
        one.carryOut(script);
        two.carryOut(other);
        List<String> seen = one.look();
        List<String> due = two.look();
        for (int i = 0; i < Math.max(seen.size(), due.size()); i++) {
            String a = i < seen.size() ? seen.get(i) : "nothing";
            String b = i < due.size() ? due.get(i) : "nothing";
            if (!a.equals(b)) {
                must(false, "behind " + script + " answered " + a + ", but behind " + other + " " + b);
                return;
            }
        }
    }

    /** Each of the calls is refused, is counted as such, and leaves all else as the setting made it. */
    void refused(int promise, String words, String setting, String calls) {
        for (String call : calls.trim().split("\\s+")) {
            same(promise, words, setting + " " + call, setting);
            Calls x = new Calls(this);
            Calls y = new Calls(this);
            x.carryOut(setting + " " + call);
            y.carryOut(setting);
            long number = refusalOf(call);
            for (int what = 11; what <= 16; what++) {
                long more = x.answer("count", what) - y.answer("count", what);
                must(more == (what == 10 - number ? 1 : 0), call + " counted " + more + " at " + what);
            }
        }
    }

    private static long refusalOf(String call) {
        long answer = Long.parseLong(call.substring(call.lastIndexOf('=') + 1));
        return answer > 0 ? 4000000000000000000L - answer : answer;
    }

    private void begin(int promise, String words) {
        this.promise = promise;
        this.words = plain(words);
        tests++;
        boolean found = name(promises[promise]) || name(termsFrom);
        must(found, "the document does not say that");
    }

    private boolean name(int[] part) {
        int at = doc.indexOf(words, part[0]);
        if (at < 0 || at + words.length() > part[1]) {
            return false;
        }
        for (int i = 0; i < words.length(); i++) {
            named[at + i] = true;
        }
        return true;
    }

    void must(boolean holds, String what) {
        if (!holds) {
            wrong++;
            String where = promise == AHEAD ? "ahead of the face" : promise == BEHIND ? "behind the promises" : "promise " + promise;
            System.out.println(where + ", \"" + words + "\": " + what);
        }
    }

    long invoke(HeaviestLightest x, String name, int... with) {
        Method m = face.get(name);
        if (m == null || m.getParameterCount() != with.length) {
            must(false, "there is no such call as " + name);
            return 0;
        }
        Object[] boxed = new Object[with.length];
        for (int i = 0; i < with.length; i++) {
            boxed[i] = with[i];
        }
        try {
            return ((Number) m.invoke(x, boxed)).longValue();
        } catch (IllegalAccessException | InvocationTargetException thrown) {
            must(false, name + " threw " + thrown.getCause());
            return 0;
        }
    }

    /** Tells of each promise that has no test, and of what the document says that no test names. */
    void tellWhatLacks() {
        for (int p = 1; p <= PROMISES; p++) {
            tellUnnamed("promise " + p, promises[p]);
        }
        tellUnnamed("the terms", termsFrom);
        tellUnnamed("ahead of the face", promises[AHEAD]);
    }

    private void tellUnnamed(String where, int[] part) {
        TreeSet<Integer> starts = new TreeSet<>();
        for (int i = part[0]; i < part[1]; i++) {
            if (!named[i] && Character.isLetterOrDigit(doc.charAt(i))) {
                starts.add(i);
            }
        }
        List<String> lacking = new ArrayList<>();
        int last = -2;
        StringBuilder run = new StringBuilder();
        for (int i : starts) {
            if (i > last + 2 && run.length() > 0) {
                lacking.add(run.toString());
                run.setLength(0);
            }
            if (i == last + 2) {
                run.append(doc.charAt(i - 1));
            }
            run.append(doc.charAt(i));
            last = i;
        }
        if (run.length() > 0) {
            lacking.add(run.toString());
        }
        for (String s : lacking) {
            wrong++;
            System.out.println(where + ": no test names \"" + s + "\"");
        }
    }

    int tests() {
        return tests;
    }

    int wrong() {
        return wrong;
    }
}
