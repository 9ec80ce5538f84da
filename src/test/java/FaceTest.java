import java.lang.reflect.Field;
import java.lang.reflect.Method;
import java.lang.reflect.Modifier;
import java.util.Arrays;
import java.util.HashSet;
import java.util.Set;
import java.util.TreeSet;

/** The public face of the document, and what LANGUAGE.md says of members (rules 1, 2, 5, 11). */
public final class FaceTest {
    private static final String[] FACE = {
        "int write(int)", "int wipe()", "int fault()", "int coast()", "int about(int)", "int holder(int,int)",
        "int piece(int,int)", "int shows(int,int,int)", "int tilt(int,boolean)", "int give(int,int)", "int hour()",
        "int undo()", "int tilts(int,int)", "int finds(int,int)", "int all(int)", "int when(int,int)",
        "int mothers()", "int giving(boolean)", "int judge(int,long)", "int share(int,boolean)", "int turn(int,int)",
        "int unturn()", "int may(int)", "int next()", "int rests(int,int,int,int)",
        "int glints(int,int,int,int,boolean)", "long seed(long)", "int years(int)", "int keep(int)", "int again(int)"};

    public static void main(String[] args) throws Exception {
        Class<?> face = PearlMother.class;
        Due.holds("public final", Modifier.isPublic(face.getModifiers()) && Modifier.isFinal(face.getModifiers()));
        Due.due("constructors", face.getDeclaredConstructors().length, 1);
        Due.holds("public PearlMother()", Modifier.isPublic(face.getConstructor().getModifiers()));
        constants(face);
        methods(face);
        Set<String> names = new HashSet<>();
        for (Method method : face.getDeclaredMethods()) {
            if (Modifier.isPublic(method.getModifiers())) names.add(method.getName());
        }
        privateMethods(face, names);
        fields(face);
        Class<?>[] inside = face.getDeclaredClasses();
        Due.holds("at most 12 classes", inside.length < 12);
        for (Class<?> one : inside) {
            int how = one.getModifiers();
            Due.holds(one + " is static", Modifier.isStatic(how));
            Due.holds(one + " is not to be seen", !Modifier.isPublic(how) && !Modifier.isProtected(how));
            privateMethods(one, names);
            fields(one);
        }
        Due.end("FaceTest");
    }

    private static void constants(Class<?> face) throws Exception {
        String[] names = {"UNKNOWN", "BAD", "LATE", "FULL", "NONE"};
        int[] values = {-1, -2, -3, -4, -9};
        for (int one = 0; one < names.length; one++) {
            Field field = face.getField(names[one]);
            int how = field.getModifiers();
            Due.holds(names[one] + " is static final int", Modifier.isStatic(how) && Modifier.isFinal(how)
                    && field.getType() == int.class);
            Due.due(names[one], field.getInt(null), values[one]);
        }
        Due.due("public fields", face.getFields().length, names.length);
    }

    private static void methods(Class<?> face) {
        Set<String> seen = new TreeSet<>();
        for (Method method : face.getDeclaredMethods()) {
            int how = method.getModifiers();
            if (Modifier.isPublic(how)) {
                StringBuilder types = new StringBuilder();
                for (Class<?> type : method.getParameterTypes()) {
                    types.append(types.length() == 0 ? "" : ",").append(type.getSimpleName());
                }
                seen.add(method.getReturnType().getSimpleName() + " " + method.getName() + "(" + types + ")");
                Due.holds(method + " is of the object", !Modifier.isStatic(how));
            } else {
                Due.holds(method + " is private", Modifier.isPrivate(how));
            }
        }
        Set<String> due = new TreeSet<>(Arrays.asList(FACE));
        Due.holds("the face is " + due + ", not " + seen, due.equals(seen));
    }

    private static void privateMethods(Class<?> where, Set<String> names) {
        for (Method method : where.getDeclaredMethods()) {
            boolean open = Modifier.isPublic(method.getModifiers());
            Due.holds(method + " has a name of its own", open || !names.contains(method.getName()));
            Due.holds(method + " takes 7 at most", method.getParameterCount() <= 7);
            Due.holds(method + " is written out", !method.isSynthetic());
        }
    }

    private static void fields(Class<?> where) {
        int own = 0;
        for (Field field : where.getDeclaredFields()) {
            int how = field.getModifiers();
            Due.holds(field + " is final, if it is static", !Modifier.isStatic(how) || Modifier.isFinal(how));
            boolean constant = Modifier.isStatic(how);
            if (where == PearlMother.class && !(constant && Modifier.isPublic(how))) {
                Due.holds(field + " is private", Modifier.isPrivate(how));
            }
            own += constant ? 0 : 1;
        }
        Due.holds(where + " has some twenty fields at most", own <= 20);
    }
}
