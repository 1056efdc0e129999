import java.lang.reflect.Constructor;
import java.lang.reflect.Field;
import java.lang.reflect.Method;
import java.lang.reflect.Modifier;
import java.util.TreeSet;

/** The document's face, and no other member that is not private. */
public final class FaceTest {
    private static final String METHODS = "int thing(int);int town(int,int);int put(int,int,int);int does(int,int,int);int undo();"
        + "int need(int,int,int);int type(long,int);int clear();int read();int at(int);int pays(int,int);int all();int least(int,int);"
        + "int fewest();int list(int);int rests(int);int better(int,int);int name(int);int line(int);int choir(int,int);int told(int,int);"
        + "int did(int,int);int copied(int);int crowd(int,int,int);long part(int);int image(int);int from(int);int status(int);"
        + "int count(int);long digest()";

    public static void main(String[] args) {
        TreeSet<String> want = new TreeSet<>(java.util.List.of(METHODS.split(";")));
        TreeSet<String> got = new TreeSet<>();
        TreeSet<String> hidden = new TreeSet<>();
        for (Method m : FinedAlike.class.getDeclaredMethods()) {
            if (Modifier.isPrivate(m.getModifiers())) hidden.add(m.getName());
            else got.add(shown(m));
        }
        boolean right = same("methods", got, want);
        for (String method : want) {
            if (hidden.contains(method.replaceAll("^\\w+ |\\(.*", ""))) {
                System.out.println("a private method bears a public one's name: " + method);
                right = false;
            }
        }
        TreeSet<String> constants = new TreeSet<>();
        for (Field f : FinedAlike.class.getDeclaredFields()) {
            if (!Modifier.isPrivate(f.getModifiers())) constants.add(Modifier.toString(f.getModifiers()) + " " + f.getName());
        }
        String open = "public static final ";
        right &= same("constants", constants, new TreeSet<>(java.util.List.of(open + "NONE", open + "BAD", open + "NO", open + "FULL")));
        right &= FinedAlike.NONE == -1 && FinedAlike.BAD == -2 && FinedAlike.NO == -3 && FinedAlike.FULL == -4;
        Constructor<?>[] made = FinedAlike.class.getDeclaredConstructors();
        right &= made.length == 1 && Modifier.isPublic(made[0].getModifiers()) && made[0].getParameterCount() == 0;
        right &= Modifier.isFinal(FinedAlike.class.getModifiers()) && Modifier.isPublic(FinedAlike.class.getModifiers());
        if (!right) {
            System.out.println("the face is not the document's");
            System.exit(1);
        }
    }

    private static String shown(Method m) {
        StringBuilder b = new StringBuilder(m.getReturnType() + " " + m.getName() + "(");
        for (int i = 0; i < m.getParameterCount(); i++) b.append(i == 0 ? "" : ",").append(m.getParameterTypes()[i]);
        return b.append(")").toString();
    }

    private static boolean same(String what, TreeSet<String> got, TreeSet<String> want) {
        if (got.equals(want)) return true;
        System.out.println(what + ": " + got + ", due are " + want);
        return false;
    }
}
