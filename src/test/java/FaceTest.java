import java.lang.reflect.Constructor;
import java.lang.reflect.Field;
import java.lang.reflect.Method;
import java.lang.reflect.Modifier;
import java.util.Arrays;
import java.util.List;
import java.util.Map;
import java.util.TreeMap;
import java.util.TreeSet;
import java.util.stream.Collectors;

/** "The public face": its signatures with their throws clauses, its constant, and nothing else that can be seen. */
public final class FaceTest {
    private static final String R = "IndexOutOfBoundsException";
    private static final String A = "IllegalArgumentException";
    private static final String S = "IllegalStateException";
    private static final String M = "NoSuchElementException";

    private FaceTest() {
    }

    public static void main(String[] args) throws Exception {
        methods();
        constant();
        constructor();
        nothingElse();
        Check.end("FaceTest");
    }

    private static void put(Map<String, String> face, String method, String... exceptions) {
        face.put(method, String.join(", ", exceptions));
    }

    private static Map<String, String> face() {
        Map<String, String> face = new TreeMap<>();
        put(face, "int append(int, int, int, int, int)", S);
        put(face, "int truncate(int)", R);
        put(face, "int load()", A);
        put(face, "int errorCode()");
        put(face, "int errorPosition()");
        put(face, "int find(int)", A, M);
        put(face, "int count(int)", A);
        put(face, "int value(int, int)", R);
        put(face, "boolean isGraded(int)", R);
        put(face, "int fits(int, int)", R, A);
        put(face, "int chart(int, int)", R, A);
        put(face, "int chartRow(int, int, boolean)", R);
        put(face, "int part(int, int, int)", R, A);
        put(face, "int parts(int)", R);
        put(face, "int failure(int, int)", R);
        put(face, "int rows(int, int)", R);
        put(face, "int partRows(int, int, int)", R, S);
        put(face, "int stitches(int, int, int)", R);
        put(face, "int partAt(int, int, int)", R);
        put(face, "int extreme(int, int, boolean)", R);
        put(face, "int shaping(int, int, int, int)", R, S, M);
        put(face, "float width(int, int, int)", R);
        put(face, "double mean(int, int)", R);
        put(face, "long need(int, int, int)", R, A);
        put(face, "int lot(int, int)", R, A);
        put(face, "int dealt(int, int, int)", R, A, S, M);
        put(face, "int lotsUsed(int)", R, S, M);
        put(face, "int possible()");
        put(face, "int setGauge(int, int, int)", A);
        put(face, "int setValue(int, int, int)", R, A);
        put(face, "int grade(int, int, int)", R, A);
        put(face, "int setEase(int, int, int)", R, A, S);
        put(face, "int addLot(int, int)", A, S);
        put(face, "int removeLot(int)", R);
        put(face, "int undo()", S);
        put(face, "void save(int)", R);
        put(face, "void restore(int)", R, M);
        put(face, "int differences(int)", R, M);
        return face;
    }

    private static String named(Class<?>... types) {
        return Arrays.stream(types).map(Class::getSimpleName).collect(Collectors.joining(", "));
    }

    private static void methods() {
        Check.sentence("\"The public face\" has the signatures with their throws clauses");
        Map<String, String> found = new TreeMap<>();
        for (Method method : KnitGrader.class.getDeclaredMethods()) {
            if (Modifier.isPublic(method.getModifiers()) && !Modifier.isStatic(method.getModifiers())) {
                String head = method.getReturnType().getSimpleName() + " " + method.getName() + "(" + named(method.getParameterTypes()) + ")";
                found.put(head, named(method.getExceptionTypes()));
            }
        }
        Map<String, String> face = face();
        for (Map.Entry<String, String> one : face.entrySet()) {
            Check.same(one.getKey(), String.valueOf(found.get(one.getKey())), one.getValue());
        }
        Check.same("the methods", found.keySet().toString(), face.keySet().toString());
    }

    private static void constant() throws Exception {
        Check.sentence("public static final int NONE = -1");
        Field none = KnitGrader.class.getDeclaredField("NONE");
        Check.same("its kind", Modifier.toString(none.getModifiers()) + " " + none.getType(), "public static final int");
        Check.same("its value", String.valueOf(none.getInt(null)), "-1");
    }

    private static void constructor() {
        Check.sentence("public KnitGrader();");
        Constructor<?>[] made = KnitGrader.class.getDeclaredConstructors();
        Check.same("one", String.valueOf(made.length), "1");
        Check.same("without arguments and exceptions", named(made[0].getParameterTypes()) + named(made[0].getExceptionTypes()), "");
        Check.same("public", Modifier.toString(made[0].getModifiers()), "public");
    }

    private static void nothingElse() {
        Check.sentence("public final class KnitGrader, with no other member that can be seen");
        Check.same("the class", Modifier.toString(KnitGrader.class.getModifiers()), "public final");
        TreeSet<String> seen = new TreeSet<>();
        TreeSet<String> twice = new TreeSet<>();
        List<String> faceNames = Arrays.stream(KnitGrader.class.getDeclaredMethods()).filter(m -> Modifier.isPublic(m.getModifiers())).map(Method::getName).toList();
        for (Method method : KnitGrader.class.getDeclaredMethods()) {
            boolean hidden = Modifier.isPrivate(method.getModifiers());
            if (!hidden && (!Modifier.isPublic(method.getModifiers()) || Modifier.isStatic(method.getModifiers()))) {
                seen.add(method.getName());
            }
            if (hidden && faceNames.contains(method.getName())) {
                twice.add(method.getName());
            }
        }
        for (Field field : KnitGrader.class.getDeclaredFields()) {
            if (!Modifier.isPrivate(field.getModifiers()) && !field.getName().equals("NONE")) {
                seen.add(field.getName());
            }
        }
        for (Class<?> inside : KnitGrader.class.getDeclaredClasses()) {
            if (Modifier.isPublic(inside.getModifiers()) || Modifier.isProtected(inside.getModifiers()) || !Modifier.isStatic(inside.getModifiers())) {
                seen.add(inside.getSimpleName());
            }
        }
        Check.same("what else can be seen", seen.toString(), "[]");
        Check.same("private methods with the name of a public one", twice.toString(), "[]");
    }
}
