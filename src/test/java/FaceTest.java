import java.lang.reflect.Constructor;
import java.lang.reflect.Field;
import java.lang.reflect.Method;
import java.lang.reflect.Modifier;
import java.util.Set;
import java.util.TreeSet;

/** The class has the document's public face and nothing beside it (LANGUAGE.md, rule 1). */
final class FaceTest {
    private static final Set<String> METHODS = Set.of(
            "int unknowns(int)", "int equation(int,int,int,int,int)", "int sum(int,int)", "int drop()",
            "int solve()", "int fails()", "long solution(int)", "long basis(int,int)", "int count(int)",
            "long reach(int,int)", "int reached(int,int,int)", "long invariant(int)", "int box(int,int)",
            "int modulo(int)", "long spread()", "int check()");
    private static final Set<String> CONSTANTS = Set.of("int NONE", "long NOTHING");

    public static void main(String[] args) {
        Dues dues = new Dues();
        dues.at("face");
        Class<?> face = WholeSolver.class;
        dues.holds("public and final", Modifier.isPublic(face.getModifiers()) && Modifier.isFinal(face.getModifiers()));
        dues.holds("methods " + methods(face), methods(face).equals(new TreeSet<>(METHODS)));
        dues.holds("constants " + constants(face), constants(face).equals(new TreeSet<>(CONSTANTS)));
        Constructor<?>[] constructors = face.getDeclaredConstructors();
        dues.due("constructors", constructors.length, 1);
        dues.holds("constructor", Modifier.isPublic(constructors[0].getModifiers())
                && constructors[0].getParameterCount() == 0);
        dues.due("NONE", WholeSolver.NONE, -1);
        dues.due("NOTHING", WholeSolver.NOTHING, -1000000000000000L);
        namesOfFaceStayItsOwn(dues, face);
        dues.end();
    }

    private static Set<String> methods(Class<?> face) {
        Set<String> found = new TreeSet<>();
        for (Method method : face.getDeclaredMethods()) {
            if (!Modifier.isPrivate(method.getModifiers())) {
                StringBuilder types = new StringBuilder();
                for (Class<?> type : method.getParameterTypes()) {
                    types.append(types.length() == 0 ? "" : ",").append(type.getName());
                }
                found.add(method.getReturnType().getName() + " " + method.getName() + "(" + types + ")");
            }
        }
        return found;
    }

    private static Set<String> constants(Class<?> face) {
        Set<String> found = new TreeSet<>();
        for (Field field : face.getDeclaredFields()) {
            if (!Modifier.isPrivate(field.getModifiers())) {
                found.add(field.getType().getName() + " " + field.getName());
            }
        }
        return found;
    }

    private static void namesOfFaceStayItsOwn(Dues dues, Class<?> face) {
        Set<String> names = new TreeSet<>();
        for (String method : METHODS) {
            names.add(method.substring(method.indexOf(' ') + 1, method.indexOf('(')));
        }
        for (Method method : face.getDeclaredMethods()) {
            dues.holds("private " + method.getName(),
                    !Modifier.isPrivate(method.getModifiers()) || !names.contains(method.getName()));
        }
    }
}
