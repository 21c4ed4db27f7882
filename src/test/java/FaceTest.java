import java.lang.reflect.Constructor;
import java.lang.reflect.Field;
import java.lang.reflect.Method;
import java.lang.reflect.Modifier;
import java.util.ArrayList;
import java.util.Collections;
import java.util.List;

/** The public face, as the document has it, and nothing beside it. */
public final class FaceTest {
    private static final String[] FACE = {
        "int begin(int) IllegalArgumentException",
        "int addLink(int,int,int) IndexOutOfBoundsException,IllegalArgumentException,IllegalStateException",
        "int removeLink(int) IndexOutOfBoundsException",
        "int setLength(int,int) IndexOutOfBoundsException,IllegalArgumentException",
        "int size(boolean) ",
        "int link(int,int) IndexOutOfBoundsException,IllegalArgumentException",
        "int distance(int,int) IndexOutOfBoundsException",
        "int goodLinks(int,int) IndexOutOfBoundsException",
        "int kind() ",
        "int label(int) IndexOutOfBoundsException",
        "int nodeWith(int) IndexOutOfBoundsException",
        "int setLabels(int,int) IllegalArgumentException,IndexOutOfBoundsException,IllegalStateException",
        "int swapLabels(int,int) IndexOutOfBoundsException",
        "int turn(int) IllegalArgumentException,IllegalStateException",
        "int shuffle(int) IllegalArgumentException",
        "int makeTables() ",
        "int setRange(int,int,int,int) IndexOutOfBoundsException,IllegalArgumentException",
        "int entry(int,int) IndexOutOfBoundsException",
        "int runs(int,int) IndexOutOfBoundsException,IllegalArgumentException",
        "int runEnd(int,int,int,boolean) IndexOutOfBoundsException",
        "int tableSize(int) IndexOutOfBoundsException",
        "int compactness() ",
        "int bestSize(int) IndexOutOfBoundsException",
        "int check(int,int) IndexOutOfBoundsException",
        "int checked(int) IllegalArgumentException",
        "int send(int,int) IndexOutOfBoundsException",
        "int wayNode(int,int,int) IndexOutOfBoundsException,IllegalArgumentException",
        "int arriving() ",
        "double stretch() ",
        "int load(int) IndexOutOfBoundsException",
        "int lostWithout(int) IndexOutOfBoundsException",
        "int bestCompactness() IllegalStateException",
        "int labelings(int) IllegalArgumentException,IllegalStateException",
        "int append(int) IllegalArgumentException,IllegalStateException",
        "int clearText() ",
        "int parse() ",
        "int undo() IllegalStateException",
        "long digest() ",
    };

    public static void main(String[] args) {
        Class<?> type = IntervalRouter.class;
        Expect.due("the class is public and final", type.getModifiers() & (Modifier.PUBLIC | Modifier.FINAL),
                Modifier.PUBLIC | Modifier.FINAL);
        methods(type);
        constructors(type);
        fields(type);
        inside(type);
        Expect.end();
    }

    private static void methods(Class<?> type) {
        List<String> found = new ArrayList<>();
        for (Method method : type.getDeclaredMethods()) {
            if (!Modifier.isPrivate(method.getModifiers())) {
                Expect.due(method + " is public and not static", method.getModifiers(), Modifier.PUBLIC);
                found.add(written(method));
            }
        }
        List<String> wanted = new ArrayList<>(List.of(FACE));
        Collections.sort(found);
        Collections.sort(wanted);
        Expect.dueText("the methods", found.toString(), wanted.toString());
    }

    private static String written(Method method) {
        StringBuilder out = new StringBuilder();
        out.append(method.getReturnType().getSimpleName()).append(' ').append(method.getName());
        out.append('(').append(names(method.getParameterTypes())).append(") ");
        return out.append(names(method.getExceptionTypes())).toString();
    }

    private static String names(Class<?>[] types) {
        List<String> out = new ArrayList<>();
        for (Class<?> type : types) {
            out.add(type.getSimpleName());
        }
        return String.join(",", out);
    }

    private static void constructors(Class<?> type) {
        Constructor<?>[] all = type.getDeclaredConstructors();
        Expect.due("constructors", all.length, 1);
        Expect.due("the constructor is public", all[0].getModifiers(), Modifier.PUBLIC);
        Expect.due("parameters of the constructor", all[0].getParameterCount(), 0);
    }

    private static void fields(Class<?> type) {
        for (Field field : type.getDeclaredFields()) {
            boolean shown = !Modifier.isPrivate(field.getModifiers());
            Expect.due(field + " is shown", shown ? 1 : 0, field.getName().equals("NONE") ? 1 : 0);
        }
        Expect.due("NONE", IntervalRouter.NONE, -1);
    }

    /** LANGUAGE.md, rules 1, 5 and 11. */
    private static void inside(Class<?> type) {
        List<String> publicNames = new ArrayList<>();
        for (Method method : type.getDeclaredMethods()) {
            if (Modifier.isPublic(method.getModifiers())) {
                publicNames.add(method.getName());
            }
        }
        for (Method method : type.getDeclaredMethods()) {
            boolean hidden = Modifier.isPrivate(method.getModifiers());
            Expect.due(method + " bears a public name", hidden && publicNames.contains(method.getName()) ? 1 : 0, 0);
        }
        Class<?>[] all = type.getDeclaredClasses();
        Expect.due("at most twelve classes", all.length <= 11 ? 1 : 0, 1);
        for (Class<?> one : all) {
            Expect.due(one + " is static and private", one.getModifiers() & (Modifier.STATIC | Modifier.PRIVATE),
                    Modifier.STATIC | Modifier.PRIVATE);
            for (Method method : one.getDeclaredMethods()) {
                Expect.due(method + " bears a public name", publicNames.contains(method.getName()) ? 1 : 0, 0);
                Expect.due(method + " has few parameters", method.getParameterCount() <= 7 ? 1 : 0, 1);
            }
            for (Field field : one.getDeclaredFields()) {
                int kept = field.getModifiers() & (Modifier.STATIC | Modifier.FINAL);
                Expect.due(field + " is static and changes", kept == Modifier.STATIC ? 1 : 0, 0);
            }
        }
    }
}
