import java.lang.reflect.Field;
import java.lang.reflect.Method;
import java.lang.reflect.Modifier;
import java.util.Arrays;
import java.util.NoSuchElementException;
import java.util.TreeSet;

/** The public face is the document's, and no other member can be seen. */
public final class FaceTest {
    /** Behind each: the exceptions that it tells, N for NoSuchElementException, I for IllegalArgumentException. */
    private static final String[] FACE = {
        "int feed(int,int,int,int,int)", "int machine(int) I", "int orders(int) I", "int fault()",
        "int count(int) N", "int guest(int,int) N", "int read(int,int,int) N", "int page(int,int,int) N",
        "int frame(int,int) N", "int chain(int,int) N", "int knot(int,boolean,int,int) N", "int like(int,int,int) N",
        "int write(int,int,int,int) N", "int copy(int,int,int,int) N", "int drop(int,int) N",
        "int advise(int,int,int,boolean) N", "int scan(int)", "int ticks(int)", "int rate(int)", "int undo()",
        "int then(int,int) NI", "int quiet()", "int merges(int,int) N", "int ideal(int) N",
        "int probe(int,int,int,int) NI", "int toAdvise(int,int) NI", "int toRate(int,int) NI", "int note(int,int)",
        "int guess(int,int,int,int) N", "int look(int,int,int,int) N", "void forget()",
        "int dirt(int,int,int,int,int) NI", "int years(int,int,int) NI", "void image()", "boolean restore()"};

    private static int wrong = 0;

    public static void main(String[] args) {
        TreeSet<String> due = new TreeSet<>(Arrays.asList(FACE));
        TreeSet<String> names = new TreeSet<>();
        for (String face : FACE) {
            names.add(face.substring(face.indexOf(' ') + 1, face.indexOf('(')));
        }
        for (Method method : GuestPages.class.getDeclaredMethods()) {
            String face = faceOf(method);
            if (Modifier.isPublic(method.getModifiers())) {
                say(due.remove(face), "not of the face: " + face);
            } else {
                say(Modifier.isPrivate(method.getModifiers()), "not private: " + face);
                say(!names.contains(method.getName()), "a private method with a public one's name: " + face);
            }
        }
        say(due.isEmpty(), "missing: " + due);
        for (Field field : GuestPages.class.getDeclaredFields()) {
            boolean isConstant = field.getName().equals("NONE");
            say(isConstant == Modifier.isPublic(field.getModifiers()), "a field: " + field);
            say(isConstant || Modifier.isPrivate(field.getModifiers()), "a field that can be seen: " + field);
        }
        for (Class<?> inside : GuestPages.class.getDeclaredClasses()) {
            say(Modifier.isStatic(inside.getModifiers()), "not static: " + inside);
            say(!Modifier.isPublic(inside.getModifiers()), "public: " + inside);
        }
        say(Modifier.isFinal(GuestPages.class.getModifiers()), "the class is not final");
        say(GuestPages.class.getConstructors().length == 1, "not one public constructor");
        say(GuestPages.NONE == -1, "NONE is not -1");
        System.out.println(wrong == 0 ? "the face is as due" : "the face is not as due");
        System.exit(wrong == 0 ? 0 : 1);
    }

    private static String faceOf(Method method) {
        StringBuilder face = new StringBuilder();
        face.append(method.getReturnType()).append(' ').append(method.getName()).append('(');
        for (Class<?> type : method.getParameterTypes()) {
            face.append(face.charAt(face.length() - 1) == '(' ? "" : ",").append(type);
        }
        face.append(')');
        for (Class<?> told : method.getExceptionTypes()) {
            boolean none = told == NoSuchElementException.class;
            boolean illegal = told == IllegalArgumentException.class;
            face.append(face.charAt(face.length() - 1) == ')' ? " " : "").append(none ? "N" : illegal ? "I" : told.getName());
        }
        return face.toString();
    }

    private static void say(boolean good, String what) {
        if (!good) {
            wrong++;
            System.out.println(what);
        }
    }
}
