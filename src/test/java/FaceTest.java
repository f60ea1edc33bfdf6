import java.lang.reflect.Constructor;
import java.lang.reflect.Field;
import java.lang.reflect.Method;
import java.lang.reflect.Modifier;
import java.util.Set;
import java.util.TreeSet;

/** The public face is the document's, whole and alone; and the nested classes are static. */
public final class FaceTest {
    public static void main(String[] args) {
        Check check = new Check();
        Class<?> face = SpeciesRounds.class;
        check.due("public", Modifier.isPublic(face.getModifiers()), true);
        check.due("final", Modifier.isFinal(face.getModifiers()), true);
        Set<String> due = Set.of("boolean key(char)", "boolean back()", "int enter()", "int species()",
                "int size(int)", "int atom(int,int)", "int bond(int,int,int)", "int rule(int,int,int)",
                "boolean change(int,int,int,int,int)", "int matches(int,int,int)", "int round()",
                "int reactions()", "int reaction(int,int)");
        Set<String> got = new TreeSet<>();
        for (Method method : face.getDeclaredMethods()) {
            if (!Modifier.isPrivate(method.getModifiers())) {
                String text = method.toString().replace("SpeciesRounds.", "");
                got.add(text.replaceFirst("^public ", ""));
            }
        }
        check.due("methods " + got, got.equals(due), true);
        for (Field field : face.getDeclaredFields()) {
            check.due("private " + field, Modifier.isPrivate(field.getModifiers()), true);
        }
        Constructor<?>[] constructors = face.getDeclaredConstructors();
        check.due("constructors", constructors.length, 1);
        check.due("constructor", constructors[0].toString().equals("public SpeciesRounds(int)"), true);
        for (Class<?> inside : face.getDeclaredClasses()) {
            check.due("static " + inside, Modifier.isStatic(inside.getModifiers()), true);
            check.due("not public " + inside, Modifier.isPublic(inside.getModifiers()), false);
        }
        check.end();
    }
}
