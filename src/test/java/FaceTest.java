import java.lang.reflect.Constructor;
import java.lang.reflect.Field;
import java.lang.reflect.Method;
import java.lang.reflect.Modifier;
import java.nio.file.Files;
import java.nio.file.Path;
import java.util.TreeSet;
import java.util.regex.Matcher;
import java.util.regex.Pattern;

/** "The public face": every member as it stands in the document's block, and no other that is not private. */
public final class FaceTest {
    private static final Path DOCUMENT = Path.of("../shared/DOC.md");
    private static final Path SOURCE = Path.of("src/main/java/DotSpreader.java");
    private static final Pattern METHOD = Pattern.compile("public (\\w+) (\\w+)\\((.*)\\)( throws .*)?;");
    private static final int METHODS = 43;

    public static void main(String[] args) throws Exception {
        String[] block = Files.readString(DOCUMENT).split("```java\n")[1].split("```")[0].split("\n");
        standsInTheSource(block);
        methods(block);
        fields();
        constructor();
        classesInside();
        Check.is("the class is public and final", DotSpreader.class.getModifiers(), Modifier.PUBLIC | Modifier.FINAL);
        Check.is("it is an Object", DotSpreader.class.getSuperclass() == Object.class, true);
        Check.is("it implements", DotSpreader.class.getInterfaces().length, 0);
        Check.done("FaceTest");
    }

    /** Word for word, the names of what a call takes too. */
    private static void standsInTheSource(String[] block) throws Exception {
        String source = Files.readString(SOURCE).replaceAll("\\s+", " ");
        for (String line : block) {
            String text = line.trim();
            boolean body = text.startsWith("public") && text.contains("(");
            String due = body ? text.substring(0, text.length() - 1) + " {" : text;
            Check.is("the face says " + text, source.contains(due), true);
        }
    }

    private static void methods(String[] block) {
        TreeSet<String> due = new TreeSet<>();
        for (String line : block) {
            Matcher method = METHOD.matcher(line.trim());
            if (method.matches()) {
                String thrown = method.group(4) == null ? "" : method.group(4).substring(" throws".length()).replace(",", "");
                due.add(method.group(1) + " " + method.group(2) + "(" + typesOf(method.group(3)) + ")" + thrown);
            }
        }
        TreeSet<String> open = new TreeSet<>();
        for (Method method : DotSpreader.class.getDeclaredMethods()) {
            if (!Modifier.isPrivate(method.getModifiers())) {
                open.add(form(method));
                Check.is(method + " is public and no more", method.getModifiers(), Modifier.PUBLIC);
            }
        }
        Check.is("the methods", String.join("\n", open), String.join("\n", due));
        Check.is("how many", due.size(), METHODS);
    }

    private static String typesOf(String parameters) {
        return parameters.replaceAll("(\\w+) \\w+", "$1").replace(", ", ",");
    }

    private static String form(Method method) {
        StringBuilder text = new StringBuilder(method.getReturnType() + " " + method.getName() + "(");
        String comma = "";
        for (Class<?> type : method.getParameterTypes()) {
            text.append(comma).append(type);
            comma = ",";
        }
        text.append(")");
        for (Class<?> thrown : method.getExceptionTypes()) {
            text.append(" ").append(thrown.getSimpleName());
        }
        return text.toString();
    }

    private static void fields() throws Exception {
        for (Field field : DotSpreader.class.getDeclaredFields()) {
            boolean open = !Modifier.isPrivate(field.getModifiers());
            Check.is(field + " is open", open, field.getName().equals("NONE"));
        }
        Field none = DotSpreader.class.getField("NONE");
        Check.is("NONE is a constant", none.getModifiers(), Modifier.PUBLIC | Modifier.STATIC | Modifier.FINAL);
        Check.is("NONE is an int", none.getType() == int.class, true);
        Check.is("NONE", DotSpreader.NONE, -1);
    }

    private static void constructor() {
        Constructor<?>[] constructors = DotSpreader.class.getDeclaredConstructors();
        Check.is("constructors", constructors.length, 1);
        Check.is("it is public", constructors[0].getModifiers(), Modifier.PUBLIC);
        Check.is("it takes", constructors[0].getParameterCount(), 0);
        Check.is("it throws", constructors[0].getExceptionTypes().length, 0);
    }

    private static void classesInside() {
        TreeSet<String> faceNames = new TreeSet<>();
        for (Method method : DotSpreader.class.getMethods()) {
            if (method.getDeclaringClass() == DotSpreader.class) {
                faceNames.add(method.getName());
            }
        }
        for (Class<?> inside : DotSpreader.class.getDeclaredClasses()) {
            Check.is(inside + " is static", Modifier.isStatic(inside.getModifiers()), true);
            Check.is(inside + " is private", Modifier.isPrivate(inside.getModifiers()), true);
            for (Method method : inside.getDeclaredMethods()) {
                Check.is(method + " bears a name of the face", faceNames.contains(method.getName()), false);
            }
        }
    }
}
