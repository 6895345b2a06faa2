import java.lang.reflect.Constructor;
import java.lang.reflect.Field;
import java.lang.reflect.Method;
import java.lang.reflect.Modifier;
import java.nio.file.Files;
import java.nio.file.Path;
import java.util.Set;
import java.util.TreeSet;
import java.util.regex.Matcher;
import java.util.regex.Pattern;

/** "The public face": what the class shows is what the document writes, and nothing else. */
public final class FaceTest {
    private static String types(Class<?>[] types) {
        StringBuilder s = new StringBuilder();
        for (Class<?> type : types) s.append(s.length() == 0 ? "" : " ").append(type.getSimpleName());
        return s.toString();
    }

    /** The methods of the document's first java block: "int feed(int int int int int)". */
    private static Set<String> written() throws java.io.IOException {
        String document = Files.readString(Path.of("../shared/DOC.md"));
        String face = document.substring(document.indexOf("```java"), document.indexOf("## Terms"));
        Set<String> found = new TreeSet<>();
        Matcher m = Pattern.compile("public (\\w+) (\\w+)\\(([^)]*)\\);").matcher(face);
        while (m.find()) found.add(m.group(1) + " " + m.group(2) + "(" + m.group(3).replaceAll("(\\w+) \\w+,?", "$1") + ")");
        return found;
    }

    public static void main(String[] args) throws java.io.IOException {
        Set<String> shown = new TreeSet<>();
        for (Method m : TurningHall.class.getDeclaredMethods()) {
            if (Modifier.isPrivate(m.getModifiers())) continue;
            Check.due(m.getName() + " is public and not static", Modifier.isPublic(m.getModifiers()) && !Modifier.isStatic(m.getModifiers()), true);
            Check.due("what " + m.getName() + " throws", m.getExceptionTypes().length, 0);
            shown.add(m.getReturnType().getSimpleName() + " " + m.getName() + "(" + types(m.getParameterTypes()) + ")");
        }
        Check.due("the methods", shown.toString(), written().toString());
        Check.due("how many", shown.size(), 25);
        Constructor<?>[] made = TurningHall.class.getDeclaredConstructors();
        Check.due("constructors", made.length, 1);
        Check.due("its parameters", made[0].getParameterCount(), 0);
        Check.due("it is public", Modifier.isPublic(made[0].getModifiers()), true);
        int seen = 0;
        for (Field f : TurningHall.class.getDeclaredFields()) {
            if (Modifier.isPrivate(f.getModifiers())) continue;
            seen++;
            Check.due(f.getName(), f.getName(), "NONE");
            Check.due("its type", f.getType().getSimpleName(), "int");
            Check.due("public static final", f.getModifiers(), Modifier.PUBLIC | Modifier.STATIC | Modifier.FINAL);
        }
        Check.due("fields that are seen", seen, 1);
        Check.due("NONE", TurningHall.NONE, -1);
        Check.due("the class is public and final", TurningHall.class.getModifiers(), Modifier.PUBLIC | Modifier.FINAL);
        Check.due("it extends nothing", TurningHall.class.getSuperclass().getSimpleName(), "Object");
        Check.due("it implements nothing", TurningHall.class.getInterfaces().length, 0);
        Check.close("FaceTest");
    }
}
