import java.lang.reflect.Constructor;
import java.lang.reflect.Field;
import java.lang.reflect.Method;
import java.lang.reflect.Modifier;
import java.nio.file.Files;
import java.nio.file.Path;
import java.util.List;
import java.util.Set;
import java.util.TreeSet;

/** The face of the class is the document's, and what its text may not hold isn't there. */
public final class FaceTest {
    private static final String[] FACE = {"int feed 5", "int land 1", "int fault 0", "int count 1", "int box 2", "int bearer 2",
        "int days 1", "int hand 2", "int away 1", "boolean change 2", "int slander 2", "int praise 2", "int undo 0", "int then 3",
        "int who 3", "int fallen 1", "int rests 1", "int meet 2", "int later 2", "int calls 2", "int toBear 1", "int crew 1",
        "int toSlander 1", "int toWait 1", "int way 3", "int see 3", "void forget 0", "int weighed 1", "int look 1", "int rain 3",
        "int game 3", "int years 3", "int idle 1", "int nearest 1", "int ahead 2", "int alone 1", "int weariest 1",
        "int onRoutes 1", "int reach 1", "int total 1", "void image 0", "boolean restore 0"};
    private static final String[] FORBIDDEN = {"->", "::", "finally", "synchronized", "assert ", "System.exit", "System.out",
        "java.util.Random", "Exact(", "catch", "import java.io", "hashCode", "toString", "getClass"};

    private static int wrong = 0;

    private static void due(String what, Object got, Object want) {
        if (!got.equals(want)) {
            wrong++;
            System.out.println(what + ": " + got + ", due is " + want);
        }
    }

    private static void checkMembers() throws Exception {
        Class<?> c = BoxBearers.class;
        due("class", Modifier.toString(c.getModifiers()), "public final");
        Set<String> found = new TreeSet<>();
        for (Method m : c.getDeclaredMethods()) {
            if (Modifier.isPublic(m.getModifiers())) {
                due("a static one " + m.getName(), Modifier.isStatic(m.getModifiers()), false);
                for (Class<?> p : m.getParameterTypes()) {
                    due("a parameter of " + m.getName(), p, int.class);
                }
                found.add(m.getReturnType() + " " + m.getName() + " " + m.getParameterCount());
            } else {
                due("private " + m.getName(), Modifier.isPrivate(m.getModifiers()), true);
            }
        }
        due("methods", found, new TreeSet<>(List.of(FACE)));
        for (Field f : c.getDeclaredFields()) {
            boolean none = f.getName().equals("NONE");
            due("field " + f.getName(), Modifier.isPrivate(f.getModifiers()), !none);
            due("static but not final " + f.getName(), Modifier.isStatic(f.getModifiers()) && !Modifier.isFinal(f.getModifiers()), false);
        }
        due("NONE", c.getField("NONE").getInt(null), -1);
        Constructor<?>[] all = c.getDeclaredConstructors();
        due("constructors", all.length, 1);
        due("constructor", Modifier.isPublic(all[0].getModifiers()) && all[0].getParameterCount() == 0, true);
    }

    private static void checkNested() {
        Set<String> names = new TreeSet<>();
        for (String line : FACE) {
            names.add(line.split(" ")[1]);
        }
        due("at most twelve classes", BoxBearers.class.getDeclaredClasses().length < 12, true);
        for (Class<?> c : BoxBearers.class.getDeclaredClasses()) {
            due("static " + c.getName(), Modifier.isStatic(c.getModifiers()), true);
            for (Method m : c.getDeclaredMethods()) {
                due("a name of the face in " + c.getName() + ": " + m.getName(), names.contains(m.getName()), false);
                due("parameters of " + m.getName(), m.getParameterCount() <= 7, true);
            }
        }
    }

    /** Nothing is made but with the object itself, so that no run of calls fills the room. */
    private static void checkText(Path source) throws Exception {
        for (String line : Files.readAllLines(source)) {
            for (String word : FORBIDDEN) {
                due("'" + line.trim() + "' holds " + word, line.contains(word), false);
            }
            boolean made = line.contains("new ") && !line.contains("throw new ");
            due("'" + line.trim() + "' makes an object in a method", made && !line.contains("private final") && !line.contains("   final"), false);
        }
    }

    public static void main(String[] args) throws Exception {
        checkMembers();
        checkNested();
        if (args.length > 0) {
            checkText(Path.of(args[0]));
        }
        System.out.println(wrong == 0 ? "FaceTest: all is as due" : wrong + " things are not as due");
        if (wrong != 0) {
            System.exit(1);
        }
    }
}
