import java.lang.reflect.Constructor;
import java.lang.reflect.Field;
import java.lang.reflect.Method;
import java.lang.reflect.Modifier;
import java.util.ArrayList;
import java.util.Arrays;
import java.util.List;
import java.util.TreeSet;

/** The class has the document's face and shows nothing else. */
public final class FaceTest {
    private static final String[] FACE = {
        "int sign(int)", "boolean end(int)", "int land()", "int force()", "int rule()",
        "int field(int,int)", "int dislikes(int,int)", "int sheet(int,int,int,int)", "int tides(int)",
        "int cut(int,int)", "int heap(int,int)", "int wall(int)", "int source(int)", "int year()",
        "int undo()", "int course()", "int ahead(int)", "int sits()", "int alters(int)",
        "int mouths(int)", "long dry(int)", "int sends(int)", "int stops()", "int longest()",
        "int least()", "int draught()", "int timetable(int)", "int way(int)", "int arms()",
        "int seen(int,int,int)", "int forget()", "int fits()", "int reed(int)", "int marked(int,int)",
        "int wiped()", "int laws()", "int bar(int,int)", "int open(int,int,int)", "int law()",
        "int rests(int)", "int years(int,int)", "boolean keep(int)", "boolean again(int)",
        "int count(int)", "long row(int)"};

    private static final List<String> WRONG = new ArrayList<>();

    public static void main(String[] args) {
        Class<?> river = RiverThinksAgain.class;
        check(Modifier.isFinal(river.getModifiers()) && Modifier.isPublic(river.getModifiers()),
            "the class is public and final");
        checkMethods(river);
        checkFields(river);
        Constructor<?>[] makers = river.getDeclaredConstructors();
        check(makers.length == 1 && Modifier.isPublic(makers[0].getModifiers())
            && makers[0].getParameterCount() == 0, "one public constructor without parameters");
        for (Class<?> inside : river.getDeclaredClasses()) {
            check(Modifier.isStatic(inside.getModifiers()) && !Modifier.isPublic(inside.getModifiers())
                && !Modifier.isProtected(inside.getModifiers()), inside + " is static and not public");
            checkOwnNames(inside);
        }
        for (String wrong : WRONG) {
            System.out.println("wrong: " + wrong);
        }
        System.exit(WRONG.isEmpty() ? 0 : 1);
    }

    private static void checkMethods(Class<?> river) {
        TreeSet<String> shown = new TreeSet<>();
        for (Method method : river.getDeclaredMethods()) {
            if (!Modifier.isPrivate(method.getModifiers())) {
                shown.add(told(method));
                check(Modifier.isPublic(method.getModifiers()), told(method) + " is public");
            } else {
                check(!isOfFace(method.getName()), "private " + told(method) + " has a name of its own");
            }
        }
        check(shown.equals(new TreeSet<>(Arrays.asList(FACE))), "the face is " + shown);
    }

    private static void checkOwnNames(Class<?> inside) {
        for (Method method : inside.getDeclaredMethods()) {
            check(!isOfFace(method.getName()), inside + " " + told(method) + " has a name of its own");
            check(method.getParameterCount() <= 7, told(method) + " has at most seven parameters");
        }
    }

    private static void checkFields(Class<?> river) {
        for (Field field : river.getDeclaredFields()) {
            boolean isNone = field.getName().equals("NONE") && Modifier.isPublic(field.getModifiers());
            check(isNone || Modifier.isPrivate(field.getModifiers()), field + " is private");
            check(!Modifier.isStatic(field.getModifiers()) || Modifier.isFinal(field.getModifiers()),
                field + " is final, if static");
        }
        check(RiverThinksAgain.NONE == -1, "NONE is -1");
    }

    private static boolean isOfFace(String name) {
        for (String method : FACE) {
            if (method.contains(" " + name + "(")) {
                return true;
            }
        }
        return false;
    }

    private static String told(Method method) {
        StringBuilder told = new StringBuilder(method.getReturnType() + " " + method.getName() + "(");
        for (int i = 0; i < method.getParameterCount(); i++) {
            told.append(i == 0 ? "" : ",").append(method.getParameterTypes()[i]);
        }
        return told.append(")").toString();
    }

    private static void check(boolean holds, String what) {
        if (!holds) {
            WRONG.add(what);
        }
    }
}
