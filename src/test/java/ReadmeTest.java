import java.lang.reflect.InvocationTargetException;
import java.lang.reflect.Method;
import java.lang.reflect.Modifier;
import java.nio.charset.StandardCharsets;
import java.nio.file.Files;
import java.nio.file.Path;
import java.util.HashMap;
import java.util.List;
import java.util.Map;
import java.util.Set;
import java.util.TreeSet;
import java.util.regex.Matcher;
import java.util.regex.Pattern;

/** Each call that README.md shows answers what stands behind it there; it is run where README.md stands. */
public final class ReadmeTest {
    private static final String BEGIN = "```java";
    private static final String END = "```";
    private static final String MAKING = "PivotalMarket market = new PivotalMarket();";
    /** A name for the answer or none, the method, what goes in, and the answer that is due. */
    private static final Pattern CALL =
            Pattern.compile("(?:int (\\w+) = )?market\\.(\\w+)\\((.*)\\); +// ([\\w.-]+)(?:: .*)?");

    private final Check check = new Check();
    private final Map<String, Method> face = new HashMap<>();
    private final Map<String, Integer> named = new HashMap<>();
    private final Set<String> shown = new TreeSet<>();
    private final PivotalMarket market = new PivotalMarket();

    public static void main(String[] args) throws Exception {
        ReadmeTest test = new ReadmeTest();
        List<String> lines = Files.readAllLines(Path.of("README.md"), StandardCharsets.UTF_8);
        test.findFace();
        test.askAll(lines.subList(lines.indexOf(BEGIN) + 1, lines.size()));
        test.check.title("README.md shows each call of the face");
        test.check.tell(new TreeSet<>(test.face.keySet()), test.shown);
        test.check.end();
    }

    private void findFace() {
        for (Method method : PivotalMarket.class.getDeclaredMethods()) {
            if (Modifier.isPublic(method.getModifiers())) {
                face.put(method.getName(), method);
            }
        }
    }

    private void askAll(List<String> lines) throws Exception {
        check.title("README.md: " + lines.get(0));
        check.tell(MAKING, lines.get(0));
        for (String line : lines.subList(1, lines.indexOf(END))) {
            if (!line.isEmpty()) {
                ask(line);
            }
        }
    }

    private void ask(String line) throws Exception {
        check.title("README.md: " + line);
        Matcher call = CALL.matcher(line);
        boolean isCall = call.matches() && face.containsKey(call.group(2));
        check.tell(true, isCall);
        if (isCall) {
            Object got = answerOf(call.group(2), call.group(3));
            shown.add(call.group(2));
            check.tell(call.group(4), got.toString());
            if (call.group(1) != null && got instanceof Integer) {
                named.put(call.group(1), (Integer) got);
            }
        }
    }

    /** What the call answers, or the name of what it throws. */
    private Object answerOf(String name, String in) throws Exception {
        String[] texts = in.isEmpty() ? new String[0] : in.split(", ");
        Object[] values = new Object[texts.length];
        for (int i = 0; i < texts.length; i++) {
            values[i] = valueOf(texts[i]);
        }
        try {
            return face.get(name).invoke(market, values);
        } catch (InvocationTargetException e) {
            return e.getCause().getClass().getSimpleName();
        }
    }

    private Object valueOf(String text) {
        if (text.equals("true") || text.equals("false")) {
            return Boolean.valueOf(text);
        }
        return named.containsKey(text) ? named.get(text) : Integer.valueOf(text);
    }
}
