import java.lang.reflect.Constructor;
import java.lang.reflect.Field;
import java.lang.reflect.Method;
import java.lang.reflect.Modifier;
import java.util.Arrays;
import java.util.Set;
import java.util.TreeSet;

/** The face of the class is the document's, and no more. */
public final class FaceTest {
    private static final String[] FACE = {
        "int feed(int,int,int,int,int)", "int end(int)", "void key(int)", "void random(int)",
        "void parameter(int,int,int)", "void begin()", "int open(int,boolean)", "int write(int,int)",
        "boolean finish(int,int)", "boolean reset(int,int,int)", "boolean stop(int,int,int)", "int read(int,int,int)",
        "long outs(int)", "boolean close(int,int)", "void raw(int)", "int deliver(int,int)", "int drop(int,int)",
        "int twice(int,int)", "int alter(int,int,int,int)", "void flow(int)", "int tick(int)", "int line(int,int)",
        "int at(int,int,int)", "int look(int,int)", "int book(int,int)", "long space(int,int,int)",
        "long stream(int,int,int)", "long streams(int,int)"
    };

    public static void main(String[] args) {
        Check check = new Check();
        Class<?> type = TransportPair.class;
        check.isTrue("public and final", (type.getModifiers() & (Modifier.PUBLIC | Modifier.FINAL)) == (Modifier.PUBLIC | Modifier.FINAL));
        Set<String> face = new TreeSet<>(Arrays.asList(FACE));
        Set<String> names = new TreeSet<>();
        for (Method m : type.getDeclaredMethods()) {
            String types = Arrays.toString(m.getParameterTypes()).replaceAll("[\\[\\] ]", "");
            String row = m.getReturnType() + " " + m.getName() + "(" + types + ")";
            if (!m.isSynthetic() && !Modifier.isPrivate(m.getModifiers())) {
                check.isTrue("of the face: " + row, face.remove(row));
                names.add(m.getName());
            }
        }
        check.isTrue("all there but " + face, face.isEmpty());
        for (Method m : type.getDeclaredMethods()) {
            boolean hidden = Modifier.isPrivate(m.getModifiers());
            check.isTrue("no private " + m.getName(), !hidden || !names.contains(m.getName()));
        }
        for (Constructor<?> c : type.getDeclaredConstructors()) {
            check.isTrue("one public constructor", Modifier.isPublic(c.getModifiers()) && c.getParameterCount() == 0);
        }
        for (Field f : type.getDeclaredFields()) {
            check.isTrue("no field to be seen: " + f.getName(), Modifier.isPrivate(f.getModifiers()));
        }
        for (Class<?> inside : type.getDeclaredClasses()) {
            check.isTrue("static inside: " + inside.getName(), Modifier.isStatic(inside.getModifiers()));
            check.isTrue("some twenty fields: " + inside.getName(), fields(inside) <= 25);
        }
        check.isTrue("some twelve classes", type.getDeclaredClasses().length <= 12);
        check.end();
    }

    private static int fields(Class<?> type) {
        int count = 0;
        for (Field f : type.getDeclaredFields()) {
            count += Modifier.isStatic(f.getModifiers()) ? 0 : 1;
        }
        return count;
    }
}
