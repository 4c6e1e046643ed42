import java.lang.reflect.Member;
import java.lang.reflect.Method;
import java.lang.reflect.Modifier;
import java.util.Arrays;
import java.util.Set;
import java.util.TreeSet;

/** The public face: each constant, the constructor and each method as the document has them, and nothing more. */
public final class FaceTest {
    private static final String FACE = """
        public int person(int sex, int father, int mother);
        public int marry(int man, int woman);
        public int adopt(int child, int man);
        public int god(int person, int child);
        public int told(int person, int what);
        public int kin(int person, int relation);
        public int thing(int kind, int worth, int holder, int other);
        public int of(int thing, int what);
        public int rule(int kind, int row, int n);
        public int heir(int person, int kind);
        public int type(long w, int n);
        public int family();
        public int rules();
        public int count(int what);
        public int dies(int person);
        public int gathers(int house, int kind);
        public int balance(int person);
        public int paid();
        public int orders(int set, int thing, int end);
        public int explained(int set);
        public int lots(int n);
        public int seed(int v);
        public int image();
        public int restore();
        public int judged(int sheet, int lane, int from, int n);
        public int wed(int thing, int house, int sheet, int lane, int from, int n, int i);
        public int film(int sheet, int lane, int from);
        public int sheet(int sheet, int lane, int n);
        public int drop(int sheet);
        public int item(int sheet, int lane, int i, int v);
        public int copy(int from, int i, int to, int j, int n);
        """;

    public static void main(String[] args) {
        Script script = new Script();
        script.same("BAD", KinGoods.BAD, -1);
        script.same("NOT", KinGoods.NOT, -2);
        script.same("FULL", KinGoods.FULL, -3);
        script.same("NONE", KinGoods.NONE, -4);
        script.same("NULL", KinGoods.NULL, -11);
        script.same("CAST", KinGoods.CAST, -12);
        script.same("INDEX", KinGoods.INDEX, -13);
        script.same("SIZE", KinGoods.SIZE, -14);
        script.same("public and final", KinGoods.class.getModifiers(), Modifier.PUBLIC | Modifier.FINAL);
        script.same("constructors", KinGoods.class.getDeclaredConstructors().length, 1);
        script.same("public ones without arguments", openConstructors(), 1);
        script.same("constants", open(KinGoods.class.getDeclaredFields()), 8);
        script.same("methods", open(KinGoods.class.getDeclaredMethods()), FACE.lines().count());
        FACE.lines().forEach(line -> script.same(line, has(line) ? 1 : 0, 1));
        script.same("private methods with a public one's name", namesakes(), 0);
        for (Class<?> inside : KinGoods.class.getDeclaredClasses()) {
            int kind = inside.getModifiers() & (Modifier.PUBLIC | Modifier.PROTECTED | Modifier.STATIC);
            script.same("static, not public: " + inside, kind, Modifier.STATIC);
        }
        script.end();
    }

    private static int openConstructors() {
        return (int) Arrays.stream(KinGoods.class.getConstructors()).filter(c -> c.getParameterCount() == 0).count();
    }

    private static int open(Member[] members) {
        return (int) Arrays.stream(members).filter(m -> !m.isSynthetic() && !Modifier.isPrivate(m.getModifiers())).count();
    }

    private static boolean has(String line) {
        String told = line.trim().replaceAll(" (\\w+)([,)])", "$2").replaceAll(";$", "");
        for (Method method : KinGoods.class.getDeclaredMethods()) {
            StringBuilder face = new StringBuilder("public " + method.getReturnType() + " " + method.getName() + "(");
            for (Class<?> type : method.getParameterTypes()) {
                face.append(face.charAt(face.length() - 1) == '(' ? "" : ", ").append(type);
            }
            if (Modifier.toString(method.getModifiers()).equals("public") && face.append(')').toString().equals(told)) {
                return true;
            }
        }
        return false;
    }

    private static int namesakes() {
        Set<String> open = new TreeSet<>();
        for (Method method : KinGoods.class.getMethods()) {
            open.add(method.getName());
        }
        int found = 0;
        for (Class<?> inside : KinGoods.class.getDeclaredClasses()) {
            for (Method method : inside.getDeclaredMethods()) {
                found += open.contains(method.getName()) ? 1 : 0;
            }
        }
        for (Method method : KinGoods.class.getDeclaredMethods()) {
            found += Modifier.isPrivate(method.getModifiers()) && open.contains(method.getName()) ? 1 : 0;
        }
        return found;
    }
}
