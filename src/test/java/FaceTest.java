import java.lang.reflect.Constructor;
import java.lang.reflect.Field;
import java.lang.reflect.Method;
import java.lang.reflect.Modifier;
import java.util.TreeSet;

/** The public face: every member of the document, and no other that is not private. */
public final class FaceTest {
    private static final String[] FACE = {
        "int feed(int,int,int,int,int)", "boolean end(int)", "int read() IllegalArgument", "int fault()",
        "int cell(int,int) IndexOutOfBounds NoSuchElement", "int zone(int,int) IndexOutOfBounds NoSuchElement",
        "int name(int,int) IndexOutOfBounds", "int people(int,int,int) IndexOutOfBounds IllegalArgument",
        "int lives(int,int) IndexOutOfBounds", "boolean flood(int,boolean) IndexOutOfBounds",
        "int unit(int) IllegalArgument", "int factor(int) IllegalArgument", "int order(int,int) IndexOutOfBounds",
        "int stands(int) IndexOutOfBounds", "int dots(int,int,int) IndexOutOfBounds",
        "int carried(int,int,int) IndexOutOfBounds", "int left(int,int) IndexOutOfBounds",
        "int all(int,int) IndexOutOfBounds", "int dot(int,int,int,int) IndexOutOfBounds NoSuchElement",
        "int crowd(int,int,int) IndexOutOfBounds", "int apart(int) IndexOutOfBounds",
        "int off(int,int) IndexOutOfBounds", "int move(int,int,int,int,int) IndexOutOfBounds IllegalArgument",
        "int tries(int,int,int,int,int,int) IndexOutOfBounds IllegalArgument",
        "int run(int,int,int,boolean) IndexOutOfBounds", "int part(int) IndexOutOfBounds",
        "int measure(int,int,int,int) IndexOutOfBounds NoSuchElement IllegalArgument",
        "int best(int,int,int) IndexOutOfBounds NoSuchElement IllegalArgument",
        "int nearest(int,int) IndexOutOfBounds", "int served(int,int) IndexOutOfBounds",
        "int thinned(int,int,int) IndexOutOfBounds IllegalArgument", "int tour(int,int) IndexOutOfBounds",
        "int way(int) IndexOutOfBounds", "int hull(int,int) IndexOutOfBounds", "int area(int) IndexOutOfBounds",
        "int middle(int,int) IndexOutOfBounds", "int line(boolean,int,int) IndexOutOfBounds",
        "int joined(int,int,int) IndexOutOfBounds IllegalArgument", "int fits(int)", "int scale(int)",
        "int write(int) IndexOutOfBounds", "int octet(int)", "int count(int)",
    };

    public static void main(String[] args) {
        TreeSet<String> due = new TreeSet<>(java.util.List.of(FACE));
        TreeSet<String> open = new TreeSet<>();
        TreeSet<String> openNames = new TreeSet<>();
        for (Method method : DotSpreader.class.getDeclaredMethods()) {
            if (!Modifier.isPrivate(method.getModifiers())) {
                open.add(form(method));
                openNames.add(method.getName());
            }
        }
        Check.is("the methods", String.join("\n", open), String.join("\n", due));
        for (Class<?> inside : DotSpreader.class.getDeclaredClasses()) {
            Check.is(inside + " is static", Modifier.isStatic(inside.getModifiers()), true);
            for (Method method : inside.getDeclaredMethods()) {
                Check.is(method + " bears a name of the face", openNames.contains(method.getName()), false);
            }
        }
        for (Field field : DotSpreader.class.getDeclaredFields()) {
            boolean open2 = !Modifier.isPrivate(field.getModifiers());
            Check.is(field + " is open", open2, field.getName().equals("NONE"));
        }
        Constructor<?>[] constructors = DotSpreader.class.getDeclaredConstructors();
        Check.is("constructors", constructors.length, 1);
        Check.is("it is public", Modifier.isPublic(constructors[0].getModifiers()), true);
        Check.is("it takes", constructors[0].getParameterCount(), 0);
        Check.is("the class is public and final", DotSpreader.class.getModifiers(), Modifier.PUBLIC | Modifier.FINAL);
        Check.is("NONE", DotSpreader.NONE, -1);
        Check.done("FaceTest");
    }

    private static String form(Method method) {
        StringBuilder text = new StringBuilder(method.getReturnType() + " " + method.getName() + "(");
        String comma = "";
        for (Class<?> type : method.getParameterTypes()) {
            text.append(comma).append(type);
            comma = ",";
        }
        text.append(")");
        for (Class<?> thrown : method.getExceptionTypes()) {
            text.append(" ").append(thrown.getSimpleName().replace("Exception", ""));
        }
        return text.toString();
    }
}
