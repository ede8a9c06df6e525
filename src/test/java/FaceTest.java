import java.lang.reflect.Constructor;
import java.lang.reflect.Field;
import java.lang.reflect.Method;
import java.lang.reflect.Modifier;
import java.util.ArrayList;
import java.util.Arrays;
import java.util.List;
import java.util.Set;
import java.util.TreeSet;

/** The class shows the face of the document, and nothing else. */
public final class FaceTest {
    private static final String[] FACE = {
        "int good(int) IllegalArgumentException IllegalStateException",
        "int party() IllegalStateException",
        "int node(int int int int) IllegalArgumentException IllegalStateException",
        "int bid(int int) IndexOutOfBoundsException IllegalArgumentException",
        "int let(int boolean) IndexOutOfBoundsException",
        "int rank(int int int) IndexOutOfBoundsException IllegalArgumentException",
        "int value(int int) IndexOutOfBoundsException IllegalArgumentException",
        "int worth(int) IllegalArgumentException",
        "int won(int) IndexOutOfBoundsException",
        "int price(int int) IndexOutOfBoundsException IllegalArgumentException",
        "int blocks(int) IllegalArgumentException",
        "int gain(int int int) IndexOutOfBoundsException IllegalArgumentException",
        "int lie(int int) IndexOutOfBoundsException IllegalArgumentException",
        "int open(int) IllegalArgumentException",
        "int rise(int) IllegalArgumentException IllegalStateException",
        "int tag(int) IndexOutOfBoundsException",
        "int demand(int) IndexOutOfBoundsException",
        "int matched(int int) IndexOutOfBoundsException IllegalArgumentException",
        "int pair(int) IllegalArgumentException",
        "int share(int int int) IndexOutOfBoundsException IllegalArgumentException",
        "int picks(int) IndexOutOfBoundsException",
        "boolean envies(int int) IndexOutOfBoundsException",
        "int ballot(int int int) IllegalArgumentException IllegalStateException",
        "int take() IllegalStateException",
        "int winner(int) IllegalArgumentException",
        "int tips(int int) IndexOutOfBoundsException IllegalArgumentException",
        "int seats(int int int) IllegalArgumentException",
        "int seal(int) IllegalArgumentException IllegalStateException",
        "int appeal(int) IndexOutOfBoundsException",
        "int many(int) IllegalArgumentException",
        "double meanPrice(int) IllegalArgumentException",
        "long digest()",
    };
    private static final int MOST_FIELDS = 20;
    private static final int MOST_CLASSES = 12;
    private static final int MOST_PARAMETERS = 7;

    public static void main(String[] args) {
        Check check = new Check();
        check.title("face");
        check.tell(true, Modifier.isFinal(PivotalMarket.class.getModifiers()));
        check.tell(new TreeSet<>(Arrays.asList(FACE)), visibleMethods());
        check.tell("[public PivotalMarket()]", Arrays.toString(PivotalMarket.class.getDeclaredConstructors()));
        check.tell(List.of(), visibleFields());
        check.tell(List.of(), hiddenMethodsWithNamesOfFace());
        List<Class<?>> classes = new ArrayList<>(Arrays.asList(PivotalMarket.class.getDeclaredClasses()));
        check.tell(true, classes.size() < MOST_CLASSES);
        for (Class<?> inner : classes) {
            check.tell(true, Modifier.isStatic(inner.getModifiers()) && Modifier.isPrivate(inner.getModifiers()));
            check.tell(List.of(), namesOfFaceIn(inner));
        }
        classes.add(PivotalMarket.class);
        for (Class<?> each : classes) {
            check.tell(true, fieldsOf(each) <= MOST_FIELDS);
            check.tell(true, mostParametersOf(each) <= MOST_PARAMETERS);
        }
        check.end();
    }

    private static Set<String> visibleMethods() {
        Set<String> all = new TreeSet<>();
        for (Method m : PivotalMarket.class.getDeclaredMethods()) {
            if (!Modifier.isPrivate(m.getModifiers())) {
                all.add(describe(m));
            }
        }
        return all;
    }

    private static String describe(Method m) {
        StringBuilder text = new StringBuilder();
        text.append(m.getReturnType().getSimpleName()).append(' ').append(m.getName()).append('(');
        for (Class<?> type : m.getParameterTypes()) {
            text.append(text.charAt(text.length() - 1) == '(' ? "" : " ").append(type.getSimpleName());
        }
        text.append(')');
        for (Class<?> type : m.getExceptionTypes()) {
            text.append(' ').append(type.getSimpleName());
        }
        return text.toString();
    }

    private static List<String> visibleFields() {
        List<String> all = new ArrayList<>();
        for (Field field : PivotalMarket.class.getDeclaredFields()) {
            if (!Modifier.isPrivate(field.getModifiers())) {
                all.add(field.getName());
            }
        }
        return all;
    }

    private static List<String> hiddenMethodsWithNamesOfFace() {
        List<String> all = new ArrayList<>();
        for (Method m : PivotalMarket.class.getDeclaredMethods()) {
            if (Modifier.isPrivate(m.getModifiers()) && isNameOfFace(m.getName())) {
                all.add(m.getName());
            }
        }
        return all;
    }

    private static List<String> namesOfFaceIn(Class<?> inner) {
        List<String> all = new ArrayList<>();
        for (Method m : inner.getDeclaredMethods()) {
            if (isNameOfFace(m.getName())) {
                all.add(m.getName());
            }
        }
        return all;
    }

    private static boolean isNameOfFace(String name) {
        for (String line : FACE) {
            if (line.contains(" " + name + "(")) {
                return true;
            }
        }
        return false;
    }

    private static int fieldsOf(Class<?> each) {
        int count = 0;
        for (Field field : each.getDeclaredFields()) {
            count += Modifier.isStatic(field.getModifiers()) ? 0 : 1;
        }
        return count;
    }

    private static int mostParametersOf(Class<?> each) {
        int most = 0;
        for (Method m : each.getDeclaredMethods()) {
            most = Math.max(most, m.getParameterCount());
        }
        for (Constructor<?> c : each.getDeclaredConstructors()) {
            most = Math.max(most, c.getParameterCount());
        }
        return most;
    }
}
