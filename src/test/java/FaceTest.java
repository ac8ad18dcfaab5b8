import java.lang.reflect.Constructor;
import java.lang.reflect.Field;
import java.lang.reflect.Method;
import java.lang.reflect.Modifier;
import java.util.Arrays;
import java.util.Set;
import java.util.TreeSet;

/** The public face is the document's and nothing more (LANGUAGE.md, rules 1, 2 and 5). */
public final class FaceTest {
    private static final String[] FACE = {
        "int REFUSED", "int UNSTABLE", "int FREEZE", "ForcedChart()",
        "int step(int, boolean)", "int expression(int, int, int)", "int transition(int, int, int)",
        "int order(int, int, int)", "int action(int, int, int, int)", "int unreached()",
        "boolean start(boolean)", "void stop()", "int scan(int, int)", "int active()", "int time(int)",
        "int enabled()", "int outputs()", "boolean stored(int)", "int evolutions()", "int cleared()",
        "int lead()", "int period()"};

    public static void main(String[] args) {
        Check.about("The public face; LANGUAGE.md, rules 1, 2 and 5");
        Check.due("REFUSED", ForcedChart.REFUSED, -2);
        Check.due("UNSTABLE", ForcedChart.UNSTABLE, -1);
        Check.due("FREEZE", ForcedChart.FREEZE, -1);
        Check.due("modifiers", ForcedChart.class.getModifiers(), Modifier.PUBLIC | Modifier.FINAL);
        checkMembers();
        checkStaticFields(ForcedChart.class);
        for (Class<?> inside : ForcedChart.class.getDeclaredClasses()) {
            Check.due(inside + " is static", Modifier.isStatic(inside.getModifiers()), true);
            checkStaticFields(inside);
        }
        Check.end();
    }

    private static void checkMembers() {
        Set<String> seen = new TreeSet<>();
        Set<String> publicNames = new TreeSet<>();
        Set<String> privateNames = new TreeSet<>();
        for (Field field : ForcedChart.class.getDeclaredFields()) {
            if (!Modifier.isPrivate(field.getModifiers())) {
                seen.add(field.getType() + " " + field.getName());
            }
        }
        for (Constructor<?> made : ForcedChart.class.getDeclaredConstructors()) {
            seen.add("ForcedChart" + parameters(made.getParameterTypes()));
        }
        for (Method method : ForcedChart.class.getDeclaredMethods()) {
            if (Modifier.isPrivate(method.getModifiers())) {
                privateNames.add(method.getName());
            } else {
                publicNames.add(method.getName());
                seen.add(method.getReturnType() + " " + method.getName() + parameters(method.getParameterTypes()));
            }
        }
        Set<String> due = new TreeSet<>(Arrays.asList(FACE));
        if (!seen.equals(due)) {
            System.out.println("the face is " + seen + ", due is " + due);
        }
        Check.due("the face is the document's", seen.equals(due), true);
        privateNames.retainAll(publicNames);
        Check.due("private methods with public names " + privateNames, privateNames.size(), 0);
    }

    private static String parameters(Class<?>[] types) {
        String text = Arrays.toString(types);
        return "(" + text.substring(1, text.length() - 1) + ")";
    }

    private static void checkStaticFields(Class<?> type) {
        for (Field field : type.getDeclaredFields()) {
            int modifiers = field.getModifiers();
            if (Modifier.isStatic(modifiers)) {
                Check.due(field + " is final", Modifier.isFinal(modifiers), true);
            }
        }
    }
}
