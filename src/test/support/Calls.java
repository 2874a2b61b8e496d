import java.util.ArrayList;
import java.util.List;
import java.util.regex.Matcher;
import java.util.regex.Pattern;

/**
 * One object, and calls on it, told in short; between them blanks:
 * name(1,2)=3 a call and the answer that is due (without "=3": whatever it answers); MIN and MAX are the ints' ends;
 * 5*name(1,2)=3 five such calls; name(1,2)=7..9 three calls, answered 7, 8, 9 (also downward);
 * {n4;w055;} these letters are fed and told as a barn, all of it due to come; {n4;x}=-1003 the answer that is due;
 * [n4;] these letters are fed alone.
 */
final class Calls {
    private static final int CALLS_MOST = 512;
    private static final Pattern CALL = Pattern.compile("(?:(\\d+)\\*)?([a-z]+)\\(([-\\dA-Z,]*)\\)(?:=(-?\\d+)(?:\\.\\.(-?\\d+))?)?");
    private static final Pattern BARN = Pattern.compile("\\{([^{}]*)\\}(?:=(-?\\d+))?");

    private final Sentences of;
    private final HeaviestLightest x = new HeaviestLightest();
    private int calls = 0;
    private String script = "";

    Calls(Sentences of) {
        this.of = of;
    }

    void carryOut(String script) {
        this.script = script;
        for (String token : script.trim().split("\\s+")) {
            if (!token.isEmpty()) {
                carryOutOne(token);
            }
        }
    }

    private void carryOutOne(String token) {
        Matcher call = CALL.matcher(token);
        Matcher barn = BARN.matcher(token);
        if (call.matches()) {
            repeat(call);
        } else if (barn.matches()) {
            String text = barn.group(1);
            feed(text);
            due(token, answer("barn"), barn.group(2) == null ? statements(text) : Long.parseLong(barn.group(2)));
        } else if (token.startsWith("[") && token.endsWith("]")) {
            feed(token.substring(1, token.length() - 1));
        } else {
            of.must(false, "what is " + token);
        }
    }

    void mustBeUsedUp() {
        of.must(calls == CALLS_MOST, calls + " calls in " + script);
    }

    private static long statements(String text) {
        return text.chars().filter(c -> c == ';').count();
    }

    private void repeat(Matcher call) {
        String shown = call.group(2) + "(" + call.group(3) + ")";
        int[] with = numbers(call.group(3));
        boolean asked = call.group(4) != null;
        long first = asked ? Long.parseLong(call.group(4)) : 0;
        long last = call.group(5) == null ? first : Long.parseLong(call.group(5));
        long times = call.group(1) == null ? Math.abs(last - first) + 1 : Long.parseLong(call.group(1));
        for (long i = 0; i < times; i++) {
            long got = answer(call.group(2), with);
            if (asked) {
                due(shown, got, first + Long.signum(last - first) * i);
            }
        }
    }

    private static int[] numbers(String list) {
        if (list.isEmpty()) {
            return new int[0];
        }
        String[] parts = list.split(",");
        int[] out = new int[parts.length];
        for (int i = 0; i < out.length; i++) {
            out[i] = parts[i].equals("MIN") ? Integer.MIN_VALUE : parts[i].equals("MAX") ? Integer.MAX_VALUE : Integer.parseInt(parts[i]);
        }
        return out;
    }

    void feed(String text) {
        for (int i = 0; i < text.length(); i++) {
            answer("feed", text.charAt(i));
        }
    }

    long answer(String name, int... with) {
        calls++;
        of.must(calls <= CALLS_MOST, "a test with more calls than are promised");
        return of.invoke(x, name, with);
    }

    void due(String call, long got, long want) {
        of.must(got == want, call + " answered " + got + ", due is " + want + (script.isEmpty() ? "" : " in " + script));
    }

    /** All that can be seen of the object but its refusals; it is not as it was then. */
    List<String> look() {
        List<String> seen = new ArrayList<>();
        seeBarn(seen);
        see(seen, "judge");
        seeLikings(seen);
        see(seen, "barn");
        for (int what = 0; what <= 6; what++) {
            see(seen, "count", what);
        }
        see(seen, "restore");
        seeBarn(seen);
        seeLikings(seen);
        return seen;
    }

    private long see(List<String> seen, String name, int... with) {
        long answer = answer(name, with);
        StringBuilder shown = new StringBuilder(name).append('(');
        for (int i = 0; i < with.length; i++) {
            shown.append(i == 0 ? "" : ",").append(with[i]);
        }
        seen.add(shown.append(")=").append(answer).toString());
        return answer;
    }

    private void seeBarn(List<String> seen) {
        int stones = (int) see(seen, "count", 0);
        int weighings = (int) see(seen, "count", 1);
        for (int what = 2; what <= 6; what++) {
            see(seen, "count", what);
        }
        int scale = (int) see(seen, "scale", 0, 0);
        see(seen, "scale", scale / 10, scale % 10);
        for (int s = 0; s < stones; s++) {
            see(seen, "weight", s);
            see(seen, "above", s);
            see(seen, "through", s);
            see(seen, "turns", s);
        }
        for (int i = 0; i < weighings; i++) {
            see(seen, "book", i);
        }
        for (String name : new String[] {"gap", "rounds", "idle", "mends", "loops"}) {
            see(seen, name);
        }
    }

    private void seeLikings(List<String> seen) {
        int stones = (int) answer("count", 0);
        for (int a = 0; a < stones; a++) {
            for (int b = a + 1; b < stones; b++) {
                see(seen, "like", a, b);
            }
        }
    }
}
