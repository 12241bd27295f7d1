import java.lang.reflect.Constructor;
import java.lang.reflect.Field;
import java.lang.reflect.Method;
import java.lang.reflect.Modifier;
import java.util.Set;
import java.util.TreeSet;

/** The public face as the document has it, and promise 1: a new object. */
public final class FaceTest {
    private static final String[] FACE = {
        "int write(int)", "int wipe()", "int fault()", "int walk()", "int word(int,int)", "int thing(int,int)",
        "int pull(int)", "int call(int)", "int pay()", "int run(int)", "int lead()", "int hunger()", "int undo()",
        "int comes(int,int)", "int best(int)", "int fewest(boolean)", "int good(int,int)", "int judge(int,int)",
        "int see(int,int,int)", "int unsee()", "int may(int)", "int share(int,boolean)", "int rests(int,int,int)",
        "int there(int,int,boolean)", "long seed(long)", "int walks(int)", "int keep(int)", "int again(int)",
        "int count(int)",
    };

    public static void main(String[] args) {
        face();
        constants();
        newObject();
        twoObjects();
        Due.end();
    }

    private static void face() {
        Set<String> due = new TreeSet<>();
        for (String told : FACE) due.add(told);
        Set<String> names = new TreeSet<>();
        Set<String> there = new TreeSet<>();
        for (Method m : WhistleBack.class.getDeclaredMethods()) {
            if (Modifier.isPrivate(m.getModifiers())) continue;
            there.add(told(m));
            names.add(m.getName());
        }
        Due.same("the face", there.toString(), due.toString());
        for (Class<?> c : WhistleBack.class.getDeclaredClasses()) {
            for (Method m : c.getDeclaredMethods()) Due.due(c + " has " + m.getName(), names.contains(m.getName()) ? 1 : 0, 0);
            Due.due(c + " is static", Modifier.isStatic(c.getModifiers()) ? 1 : 0, 1);
        }
        for (Method m : WhistleBack.class.getDeclaredMethods()) {
            if (Modifier.isPrivate(m.getModifiers())) Due.due("private " + m.getName(), names.contains(m.getName()) ? 1 : 0, 0);
        }
        Due.due("final", Modifier.isFinal(WhistleBack.class.getModifiers()) ? 1 : 0, 1);
        Constructor<?>[] made = WhistleBack.class.getDeclaredConstructors();
        Due.due("constructors", made.length, 1);
        Due.due("its parameters", made[0].getParameterCount(), 0);
    }

    private static String told(Method m) {
        StringBuilder told = new StringBuilder(m.getReturnType().getSimpleName()).append(' ').append(m.getName()).append('(');
        Class<?>[] takes = m.getParameterTypes();
        for (int i = 0; i < takes.length; i++) told.append(i == 0 ? "" : ",").append(takes[i].getSimpleName());
        return told.append(')').toString();
    }

    private static void constants() {
        Due.due("UNKNOWN", WhistleBack.UNKNOWN, -1);
        Due.due("OUTSIDE", WhistleBack.OUTSIDE, -2);
        Due.due("STATE", WhistleBack.STATE, -3);
        Due.due("FULL", WhistleBack.FULL, -4);
        Due.due("NONE", WhistleBack.NONE, -9);
        Set<String> open = new TreeSet<>();
        for (Field f : WhistleBack.class.getDeclaredFields()) {
            if (!Modifier.isPrivate(f.getModifiers())) open.add(f.getName());
            if (Modifier.isStatic(f.getModifiers())) Due.due(f.getName() + " is final", Modifier.isFinal(f.getModifiers()) ? 1 : 0, 1);
        }
        Due.same("fields that others see", open.toString(), "[FULL, NONE, OUTSIDE, STATE, UNKNOWN]");
    }

    private static void newObject() {
        WhistleBack x = new WhistleBack();
        for (int what = 0; what <= 10; what++) Due.due("count(" + what + ")", x.count(what), what == 5 ? -9 : 0);
        Due.due("word(0, 0)", x.word(0, 0), -1);
        Due.due("thing(0, 0)", x.thing(0, 0), -1);
        Due.due("fault()", x.fault(), 0);
        for (int y = 0; y <= 9; y++) {
            Due.due("pull(" + y + ")", x.pull(y), 0);
            Due.due("best(" + y + ")", x.best(y), -9);
        }
        Due.due("undo()", x.undo(), -3);
        Due.due("pay()", x.pay(), -3);
        Due.due("fewest(false)", x.fewest(false), -9);
        Due.due("fewest(true)", x.fewest(true), -9);
        Due.due("again(0)", x.again(0), -3);
        Due.due("again(1)", x.again(1), -3);
        Due.due("seed(0)", x.seed(0), 0);
        Due.due("lead()", x.lead(), 1);
        Due.due("hunger()", x.hunger(), 1);
    }

    private static void twoObjects() {
        WhistleBack x = Due.walkOf("D25W90T11");
        WhistleBack y = new WhistleBack();
        Due.due("count(1) of another", y.count(1), 0);
        Due.due("walk() of another", y.walk(), -3);
        y.run(3);
        Due.due("count(4) of the first", x.count(4), 5);
    }
}
