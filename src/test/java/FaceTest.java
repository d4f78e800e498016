import java.lang.reflect.Constructor;
import java.lang.reflect.Field;
import java.lang.reflect.Method;
import java.lang.reflect.Modifier;
import java.util.Map;
import java.util.TreeMap;

/** The class shows the document's face and nothing else. */
public final class FaceTest {
    private static boolean shown(int modifiers) {
        return !Modifier.isPrivate(modifiers);
    }

    private static String written(Method m) {
        StringBuilder s = new StringBuilder(m.getReturnType().getName()).append('(');
        for (Class<?> p : m.getParameterTypes()) {
            s.append(s.charAt(s.length() - 1) == '(' ? "" : ",").append(p.getName());
        }
        s.append(')');
        for (Class<?> e : m.getExceptionTypes()) {
            s.append(' ').append(e.getSimpleName());
        }
        return s.toString();
    }

    public static void main(String[] args) {
        Map<String, String> face = new TreeMap<>();
        String both = " IllegalArgumentException IllegalStateException";
        face.put("feed", "int(long,int)" + both);
        face.put("load", "void() IllegalArgumentException");
        face.put("place", "int()");
        face.put("run", "int(int)" + both);
        face.put("status", "int()");
        face.put("look", "int(int) IllegalArgumentException");
        face.put("out", "int(int) IndexOutOfBoundsException");
        face.put("kind", "int(int)" + both);
        face.put("number", "int(int)" + both);
        Class<?> c = ListDesk.class;
        Check.due("public and final", c.getModifiers(), Modifier.PUBLIC | Modifier.FINAL);
        for (Method m : c.getDeclaredMethods()) {
            if (m.isSynthetic()) {
                continue;
            }
            if (!shown(m.getModifiers())) {
                Check.due("a private method named " + m.getName(), face.containsKey(m.getName()) ? 1 : 0, 0);
                continue;
            }
            String due = face.remove(m.getName());
            Check.due("method " + m, written(m).equals(due) ? 1 : 0, 1);
            Check.due("public " + m, m.getModifiers(), Modifier.PUBLIC);
        }
        Check.due("methods that are missing", face.size(), 0);
        for (Field f : c.getDeclaredFields()) {
            Check.due("field " + f, shown(f.getModifiers()) ? 1 : 0, 0);
        }
        Constructor<?>[] made = c.getDeclaredConstructors();
        Check.due("constructors", made.length, 1);
        Check.due("the constructor's parameters", made[0].getParameterCount(), 0);
        Check.due("the constructor is public", made[0].getModifiers(), Modifier.PUBLIC);
        Check.end("FaceTest");
    }
}
