import java.lang.reflect.Constructor;
import java.lang.reflect.Field;
import java.lang.reflect.Method;
import java.lang.reflect.Modifier;
import java.util.Arrays;
import java.util.Set;
import java.util.TreeSet;

/** The face is the document's and no other: rule 1 of LANGUAGE.md, and static fields by rule 5. */
public final class FaceTest {
    private static final String[] DUE = {
        "int places(int)", "int hedge(int,int)", "int lay(int,int)", "int person(int,int,int,int)",
        "int leave(int)", "int say(int)", "int wipe()", "int fault()", "int judge(int)", "int done()",
        "int state(int,int)", "int behind(int,int)", "int stones(int,int)", "int air(int)",
        "int flight(int,int,int,int,int)", "int gets(int,int,int)", "int round(int)",
        "int keptOff(int,int,int)", "int laid()", "int list(int,int,int,int,int,int,int)", "int strike(int)",
        "int meet(int,int)", "int forbidden(int)", "int duck(int,int,int)", "int hands(int)",
        "int seen(int,int,int)", "int forget()", "int who(int)", "long slips(int,int,int,int,int,int,int)",
        "int year(int,int,int)", "int image(int)", "int restore(int)", "int told(int)"};
    private static final Set<String> CONSTANTS =
        new TreeSet<>(Arrays.asList("NONE", "UNKNOWN", "OUTSIDE", "STATE", "FULL", "NO", "LOST"));
    private static int wrong;

    private static void check(boolean good, String text) {
        if (!good) {
            wrong++;
            System.out.println(text);
        }
    }

    private static String told(Method m) {
        StringBuilder text = new StringBuilder(m.getReturnType().getName()).append(' ').append(m.getName()).append('(');
        for (int i = 0; i < m.getParameterCount(); i++) {
            text.append(i == 0 ? "" : ",").append(m.getParameterTypes()[i].getName());
        }
        return text.append(')').toString();
    }

    private static void checkInside(Class<?> inner, Set<String> publicNames) {
        check(Modifier.isStatic(inner.getModifiers()), inner + " is not static");
        check(!Modifier.isPublic(inner.getModifiers()), inner + " is public");
        for (Method m : inner.getDeclaredMethods()) {
            check(!publicNames.contains(m.getName()), inner + " has the name of a public method: " + m.getName());
            check(m.getParameterCount() <= 7, inner + ": too many parameters: " + m.getName());
        }
        for (Field f : inner.getDeclaredFields()) {
            check(!Modifier.isStatic(f.getModifiers()) || Modifier.isFinal(f.getModifiers()), inner + ": " + f);
        }
    }

    public static void main(String[] args) {
        Class<?> face = StoneRound.class;
        check(Modifier.isPublic(face.getModifiers()) && Modifier.isFinal(face.getModifiers()), "not public final");
        Set<String> due = new TreeSet<>(Arrays.asList(DUE));
        Set<String> names = new TreeSet<>();
        Set<String> got = new TreeSet<>();
        for (Method m : face.getDeclaredMethods()) {
            if (!Modifier.isPrivate(m.getModifiers())) {
                check(Modifier.isPublic(m.getModifiers()) && !Modifier.isStatic(m.getModifiers()), "not due: " + m);
                got.add(told(m));
                names.add(m.getName());
            }
        }
        check(got.equals(due), "the methods are " + got);
        for (Method m : face.getDeclaredMethods()) {
            check(!Modifier.isPrivate(m.getModifiers()) || !names.contains(m.getName()), "private, named as public: " + m);
        }
        for (Field f : face.getDeclaredFields()) {
            check(Modifier.isPrivate(f.getModifiers()) != CONSTANTS.contains(f.getName()), "not due: " + f);
            check(!Modifier.isStatic(f.getModifiers()) || Modifier.isFinal(f.getModifiers()), "not final: " + f);
        }
        Constructor<?>[] made = face.getDeclaredConstructors();
        check(made.length == 1 && made[0].getParameterCount() == 0 && Modifier.isPublic(made[0].getModifiers()),
            "the constructors are " + Arrays.toString(made));
        for (Class<?> inner : face.getDeclaredClasses()) {
            checkInside(inner, names);
        }
        System.out.println(wrong == 0 ? "the face is as due" : wrong + " faults of the face");
        if (wrong != 0) {
            System.exit(1);
        }
    }
}
