import java.lang.reflect.Field;
import java.lang.reflect.Method;
import java.lang.reflect.Modifier;
import java.util.ArrayList;
import java.util.List;
import java.util.TreeSet;

/** The public face of the document, and what LANGUAGE.md says of members, seen by reflection. */
public final class FaceTest {
    private static final String[] METHODS = {
        "int grid(int,int)", "int put(int,int,int)", "int cell(int,int)", "int rule(int)", "int word(int)",
        "int spelled()", "int turn(int)", "int part(int,int,int)", "int shape(int,int,int)",
        "int turned(int,int,int)", "long standard(int,int)", "int product(int,int)", "int filling(int,int,int)",
        "int along(int,int)", "int fits(int)", "int back(int)", "int longest(int,int)", "int union(int,int)",
        "int corner(int)", "int unlike(int)", "int undo()", "int again()", "int feed(int,int)", "int wipe()",
        "int read()", "int hold(int,int,int)", "int drop(int)", "int taken(int,int)", "int was(int,int)",
        "int row(int,int)", "int set(int,int,int)", "long get(int,int)", "int judge(int,int,int)", "int image()",
        "int restore()", "int count(int)"};
    private static int wrong = 0;

    private static void check(boolean right, String what) {
        if (!right) {
            wrong++;
            System.out.println(what);
        }
    }

    public static void main(String[] args) {
        Class<?> face = GrowthGrid.class;
        int mods = face.getModifiers();
        check(Modifier.isPublic(mods) && Modifier.isFinal(mods), "the class is not public and final");
        check(face.getDeclaredConstructors().length == 1, "there is more than one constructor");
        check(Modifier.isPublic(face.getDeclaredConstructors()[0].getModifiers()), "the constructor is not public");
        TreeSet<String> names = checkMethods(face);
        checkConstants(face);
        Class<?>[] inside = face.getDeclaredClasses();
        check(inside.length + 1 <= 12, "there are too many classes");
        List<Class<?>> all = new ArrayList<>(List.of(inside));
        for (Class<?> c : inside) {
            check(Modifier.isStatic(c.getModifiers()), c + " is not static");
            check(!Modifier.isPublic(c.getModifiers()) && !Modifier.isProtected(c.getModifiers()), c + " is seen outside");
            for (Method m : c.getDeclaredMethods()) {
                check(!names.contains(m.getName()), m + " bears the name of a public one");
            }
        }
        all.add(face);
        for (Class<?> c : all) {
            checkFields(c);
            for (Method m : c.getDeclaredMethods()) {
                check(m.getParameterCount() <= 7, m + " takes too many parameters");
            }
        }
        System.out.println(wrong == 0 ? "the face is as told" : wrong + " members are not as told");
        if (wrong != 0) {
            System.exit(1);
        }
    }

    private static TreeSet<String> checkMethods(Class<?> face) {
        TreeSet<String> names = new TreeSet<>();
        TreeSet<String> found = new TreeSet<>();
        for (Method m : face.getDeclaredMethods()) {
            if (Modifier.isPublic(m.getModifiers())) {
                StringBuilder told = new StringBuilder(m.getReturnType() + " " + m.getName() + "(");
                for (Class<?> type : m.getParameterTypes()) {
                    told.append(told.charAt(told.length() - 1) == '(' ? "" : ",").append(type);
                }
                found.add(told.append(")").toString());
                names.add(m.getName());
                check(!Modifier.isStatic(m.getModifiers()), m + " is static");
            }
        }
        for (Method m : face.getDeclaredMethods()) {
            if (!Modifier.isPublic(m.getModifiers())) {
                check(Modifier.isPrivate(m.getModifiers()), m + " is neither public nor private");
                check(!names.contains(m.getName()), m + " bears the name of a public one");
            }
        }
        check(found.equals(new TreeSet<>(List.of(METHODS))), "the methods are " + found);
        return names;
    }

    private static void checkConstants(Class<?> face) {
        TreeSet<String> found = new TreeSet<>();
        for (Field f : face.getDeclaredFields()) {
            if (Modifier.isPublic(f.getModifiers())) {
                found.add(f.getType() + " " + f.getName());
                check(Modifier.isStatic(f.getModifiers()), f + " is not static");
            } else {
                check(Modifier.isPrivate(f.getModifiers()), f + " is neither public nor private");
            }
        }
        List<String> due = List.of("int BAD", "int NOT", "int FULL", "int STATE", "int WIDE", "long NO");
        check(found.equals(new TreeSet<>(due)), "the constants are " + found);
    }

    private static void checkFields(Class<?> c) {
        int own = 0;
        for (Field f : c.getDeclaredFields()) {
            if (Modifier.isStatic(f.getModifiers())) {
                check(Modifier.isFinal(f.getModifiers()), f + " is static, but not final");
            } else {
                own++;
            }
        }
        check(own <= 20, c + " has too many fields");
    }
}
