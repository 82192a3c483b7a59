import java.lang.reflect.Field;
import java.lang.reflect.Method;
import java.lang.reflect.Modifier;
import java.util.Arrays;
import java.util.TreeSet;

/** The public face is the document's, and no other member can be seen. */
public final class FaceTest {
    private static final String[] FACE = {
        "int feed(int,int,int,int,int)", "int machine(int)", "int orders(int)", "int fault()", "int count(int)",
        "int guest(int,int)", "int read(int,int,int)", "int page(int,int,int)", "int frame(int,int)",
        "int chain(int,int)", "int knot(int,boolean,int,int)", "int like(int,int,int)", "int write(int,int,int,int)",
        "int copy(int,int,int,int)", "int drop(int,int)", "int advise(int,int,int,boolean)", "int scan(int)",
        "int ticks(int)", "int rate(int)", "int undo()", "int then(int,int)", "int quiet()", "int merges(int,int)",
        "int ideal(int)", "int probe(int,int,int,int)", "int toAdvise(int,int)", "int toRate(int,int)",
        "int note(int,int)", "int guess(int,int,int,int)", "int look(int,int,int,int)", "void forget()",
        "int dirt(int,int,int,int,int)", "int years(int,int,int)", "void image()", "boolean restore()"};

    private static int wrong = 0;

    public static void main(String[] args) {
        TreeSet<String> due = new TreeSet<>(Arrays.asList(FACE));
        TreeSet<String> names = new TreeSet<>();
        for (String face : FACE) {
            names.add(face.substring(face.indexOf(' ') + 1, face.indexOf('(')));
        }
        for (Method method : GuestPages.class.getDeclaredMethods()) {
            String face = faceOf(method);
            if (Modifier.isPublic(method.getModifiers())) {
                say(due.remove(face), "not of the face: " + face);
            } else {
                say(Modifier.isPrivate(method.getModifiers()), "not private: " + face);
                say(!names.contains(method.getName()), "a private method with a public one's name: " + face);
            }
        }
        say(due.isEmpty(), "missing: " + due);
        for (Field field : GuestPages.class.getDeclaredFields()) {
            boolean isConstant = field.getName().equals("NONE");
            say(isConstant == Modifier.isPublic(field.getModifiers()), "a field: " + field);
            say(isConstant || Modifier.isPrivate(field.getModifiers()), "a field that can be seen: " + field);
        }
        for (Class<?> inside : GuestPages.class.getDeclaredClasses()) {
            say(Modifier.isStatic(inside.getModifiers()), "not static: " + inside);
            say(!Modifier.isPublic(inside.getModifiers()), "public: " + inside);
        }
        say(Modifier.isFinal(GuestPages.class.getModifiers()), "the class is not final");
        say(GuestPages.class.getConstructors().length == 1, "not one public constructor");
        say(GuestPages.NONE == -1, "NONE is not -1");
        System.out.println(wrong == 0 ? "the face is as due" : "the face is not as due");
        System.exit(wrong == 0 ? 0 : 1);
    }

    private static String faceOf(Method method) {
        StringBuilder face = new StringBuilder();
        face.append(method.getReturnType()).append(' ').append(method.getName()).append('(');
        for (Class<?> type : method.getParameterTypes()) {
            face.append(face.charAt(face.length() - 1) == '(' ? "" : ",").append(type);
        }
        return face.append(')').toString();
    }

    private static void say(boolean good, String what) {
        if (!good) {
            wrong++;
            System.out.println(what);
        }
    }
}
