/** What the tests share: answers compared with those that are due, and WALKS told from a text. */
final class Due {
    private static int asked = 0;
    private static int wrong = 0;

    private Due() {
    }

    static void due(String call, long got, long want) {
        asked++;
        if (got == want) return;
        wrong++;
        System.out.println(call + " answered " + got + ", due is " + want);
    }

    static void same(String what, String got, String want) {
        asked++;
        if (got.equals(want)) return;
        wrong++;
        System.out.println(what + ": " + got + ", due is " + want);
    }

    static boolean anyWrong() {
        return wrong != 0;
    }

    /** An object whose WALK is that text. */
    static WhistleBack walkOf(String text) {
        WhistleBack x = new WhistleBack();
        tell(x, text);
        if (x.walk() < 0) due("walk() of " + text, x.walk(), 0);
        return x;
    }

    /** THE TEXT is that text then, whatever it was. */
    static void tell(WhistleBack x, String text) {
        x.wipe();
        for (int i = 0; i < text.length(); i++) x.write(text.charAt(i));
    }

    /** All that can be asked of an object without changing it, to see that a refusal changed nothing. */
    static String all(WhistleBack x) {
        StringBuilder told = new StringBuilder();
        for (int what = 0; what <= 10; what++) told.append(x.count(what)).append(' ');
        for (int word = 0; word < 4; word++) {
            for (int what = 0; what <= 5; what++) told.append(x.word(word, what)).append(' ');
            told.append(x.may(word)).append(' ');
        }
        for (int thing = 0; thing < 4; thing++) told.append(x.thing(thing, 0)).append(' ').append(x.thing(thing, 1)).append(' ');
        long seed = x.seed(0);
        x.seed(seed);
        return told.append(x.fault()).append(' ').append(seed).toString();
    }

    /** Both parts of a FRACTION as 100000 times the upper and the lower one; a refusal must be told by both. */
    static long fraction(int upper, int below) {
        return upper < 0 || below < 0 ? (upper == below ? upper : -100) : 100000L * upper + below;
    }

    static void end() {
        System.out.println(asked + " answers asked, " + wrong + " not as due");
        if (wrong != 0) System.exit(1);
    }
}
