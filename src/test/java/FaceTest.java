import java.lang.reflect.Constructor;
import java.lang.reflect.Field;
import java.lang.reflect.Method;
import java.lang.reflect.Modifier;
import java.util.Arrays;
import java.util.Set;
import java.util.TreeSet;

/** The public face is the document's, and nothing else of the class can be seen. */
public final class FaceTest {
    private static final String[] METHODS = {
        "int host()", "int claims(int,int,int,int,int)", "int shares(int,int,int,int,int)", "int leaves(int,int)",
        "int record(int,int,int)", "int of(int,int)", "int ticks(int)", "int rate()", "int asks(int,int,int)",
        "int entry(int,int,int)", "int finds(int,int,int,int)", "int owner(int,int,int)", "int all(int)",
        "int sleeps(int,int)", "int wakes(int)", "int type(int)", "int clear()", "int reads()", "int why(int)",
        "int back()", "int told(int)", "long digest()"
    };

    public static void main(String[] args) {
        Checks checks = new Checks();
        checks.holds("the class is public and final",
                Modifier.isPublic(LinkNames.class.getModifiers()) && Modifier.isFinal(LinkNames.class.getModifiers()));
        checkMethods(checks);
        checkFields(checks);
        Constructor<?>[] made = LinkNames.class.getDeclaredConstructors();
        checks.holds("one public constructor without parameters", made.length == 1
                && Modifier.isPublic(made[0].getModifiers()) && made[0].getParameterCount() == 0);
        checks.due("NONE", LinkNames.NONE, -1);
        checks.due("BAD", LinkNames.BAD, -2);
        checks.due("NO", LinkNames.NO, -3);
        checks.due("FULL", LinkNames.FULL, -4);
        for (Class<?> inside : LinkNames.class.getDeclaredClasses()) {
            checks.holds(inside + " is static and not public",
                    Modifier.isStatic(inside.getModifiers()) && !Modifier.isPublic(inside.getModifiers()));
        }
        checks.end("FaceTest");
    }

    private static void checkMethods(Checks checks) {
        Set<String> found = new TreeSet<>();
        Set<String> names = new TreeSet<>();
        for (Method method : LinkNames.class.getDeclaredMethods()) {
            if (!Modifier.isPrivate(method.getModifiers())) {
                found.add(signature(method));
                names.add(method.getName());
                checks.holds(method + " is public", Modifier.isPublic(method.getModifiers()));
            }
        }
        checks.holds("the methods are the document's: " + found, found.equals(new TreeSet<>(Arrays.asList(METHODS))));
        for (Method method : LinkNames.class.getDeclaredMethods()) {
            checks.holds("no private method has the public name " + method.getName(),
                    !Modifier.isPrivate(method.getModifiers()) || !names.contains(method.getName()));
        }
    }

    private static void checkFields(Checks checks) {
        Set<String> found = new TreeSet<>();
        for (Field field : LinkNames.class.getDeclaredFields()) {
            if (!Modifier.isPrivate(field.getModifiers())) {
                found.add(Modifier.toString(field.getModifiers()) + " " + field.getType() + " " + field.getName());
            }
        }
        Set<String> due = new TreeSet<>();
        for (String name : new String[] {"NONE", "BAD", "NO", "FULL"}) {
            due.add("public static final int " + name);
        }
        checks.holds("the fields are the document's: " + found, found.equals(due));
    }

    private static String signature(Method method) {
        StringBuilder text = new StringBuilder();
        text.append(method.getReturnType()).append(' ').append(method.getName()).append('(');
        String between = "";
        for (Class<?> type : method.getParameterTypes()) {
            text.append(between).append(type);
            between = ",";
        }
        return text.append(')').toString();
    }
}
