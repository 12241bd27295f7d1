import java.lang.reflect.InvocationTargetException;
import java.lang.reflect.Method;
import java.util.Arrays;
import java.util.Comparator;
import java.util.List;
import java.util.function.Function;
import java.util.function.Supplier;
import java.util.function.ToLongFunction;

/** What the tests share: answers compared with those that are due, and WALKS told from a text. */
final class Due {
    private static final int MIN = Integer.MIN_VALUE, MAX = Integer.MAX_VALUE;

    private static int asked = 0;
    private static int wrong = 0;
    private static String test = "";

    private Due() {
    }

    static void due(String call, long got, long want) {
        asked++;
        if (got == want) return;
        wrong++;
        System.out.println(test + call + " answered " + got + ", due is " + want);
    }

    static void same(String what, String got, String want) {
        asked++;
        if (got.equals(want)) return;
        wrong++;
        System.out.println(test + what + ": " + got + ", due is " + want);
    }

    static boolean anyWrong() {
        return wrong != 0;
    }

    /** Runs every test of a class: its methods whose names begin with the promise that they are for. */
    static void runTests(Class<?> tests) throws IllegalAccessException {
        Method[] methods = tests.getDeclaredMethods();
        Arrays.sort(methods, Comparator.comparing(Method::getName));
        int many = 0;
        for (Method m : methods) {
            if (!m.getName().matches("promise[0-3][0-9]_.+")) continue;
            many++;
            test = m.getName() + ": ";
            int before = asked;
            try {
                m.invoke(null);
            } catch (InvocationTargetException thrown) {
                same("it threw", String.valueOf(thrown.getCause()), "nothing thrown");
            }
            if (asked == before) same("it asked", "nothing", "something");
        }
        test = "";
        System.out.println(many + " tests");
        end();
    }

    /** An object whose WALK is that text. */
    static WhistleBack walkOf(String text) {
        WhistleBack x = new WhistleBack();
        tell(x, text);
        if (x.walk() < 0) due("walk() of " + text, x.walk(), 0);
        return x;
    }

    /** THE TEXT is that text then, whatever it was. */
    static void tell(WhistleBack x, String text) {
        x.wipe();
        for (int i = 0; i < text.length(); i++) x.write(text.charAt(i));
    }

    /** One with whom much was done: 4 ACTS, WORD 3 is OWED, HUNGRY, both slots kept, two SEEN, a SEED. */
    static WhistleBack busy() {
        WhistleBack x = walkOf("D38W50W61W42W73T23T71");
        x.hunger();
        x.see(0, 3, 1);
        x.see(1, 9, 0);
        x.seed(77);
        x.keep(0);
        x.call(1);
        x.keep(1);
        x.run(4);
        x.call(3);
        return x;
    }

    /** The same one on the LEAD, by a fifth ACT. */
    static WhistleBack leashed() {
        WhistleBack x = busy();
        x.lead();
        return x;
    }

    /** All that can be asked of an object without changing it, to see that a refusal changed nothing. */
    static String all(WhistleBack x) {
        StringBuilder told = new StringBuilder();
        for (int what = 0; what <= 10; what++) told.append(x.count(what)).append(' ');
        for (int word = 0; word < 4; word++) {
            for (int what = 0; what <= 5; what++) told.append(x.word(word, what)).append(' ');
            told.append(x.may(word)).append(' ');
        }
        for (int thing = 0; thing < 4; thing++) told.append(x.thing(thing, 0)).append(' ').append(x.thing(thing, 1)).append(' ');
        long seed = x.seed(0);
        x.seed(seed);
        return told.append(x.fault()).append(' ').append(seed).toString();
    }

    /** What a slot keeps and an ACT may change, and nothing else. */
    static String stood(WhistleBack x) {
        StringBuilder told = new StringBuilder();
        for (int word = 0; word < x.count(1); word++) told.append(x.word(word, 0)).append(' ');
        for (int what = 3; what <= 8; what++) told.append(x.count(what)).append(' ');
        return told.toString();
    }

    /** How it stood ahead of each ACT of the row; the row is empty then. */
    static String undone(WhistleBack x) {
        StringBuilder told = new StringBuilder();
        for (int left = x.undo(); left >= 0; left = x.undo()) told.append(left).append(": ").append(stood(x)).append("; ");
        return told.append(stood(x)).toString();
    }

    private static String kept(WhistleBack x) {
        StringBuilder told = new StringBuilder();
        for (int slot = 0; slot <= 1; slot++) told.append(x.again(slot)).append(": ").append(stood(x)).append("; ");
        return told.toString();
    }

    /** THE TEXT as far as it tells a WALK, and what is SEEN of all WORDS that there could be. */
    private static String anew(WhistleBack x) {
        String told = x.walk() + ": " + all(x);
        tell(x, "D00W00W00W00W00");
        return told + "; " + x.walk() + ": " + all(x);
    }

    /** A call is refused so, and changes nothing that can be found out, at once or later. */
    static void refused(String call, Supplier<WhistleBack> made, ToLongFunction<WhistleBack> refusal, long want) {
        List<Function<WhistleBack, String>> looks = List.of(Due::all, Due::undone, Due::kept, Due::anew);
        for (Function<WhistleBack, String> look : looks) {
            WhistleBack x = made.get();
            due(call, refusal.applyAsLong(x), want);
            same("after " + call, look.apply(x), look.apply(made.get()));
        }
    }

    /** The numbers just outside from..to, and the ones that are farthest outside. */
    static int[] outside(int from, int to) {
        return new int[] {from - 1, to + 1, from - 2, to + 2, MIN, MIN + 1, MAX - 1, MAX};
    }

    /** Both parts of a FRACTION as 100000 times the upper and the lower one; a refusal must be told by both. */
    static long fraction(int upper, int below) {
        return upper < 0 || below < 0 ? (upper == below ? upper : -100) : 100000L * upper + below;
    }

    static void end() {
        System.out.println(asked + " answers asked, " + wrong + " not as due");
        if (wrong != 0) System.exit(1);
    }
}
