/** Promises 2 to 8: THE TEXT, its FAULT, THE WALK, WORDS, THINGS, PULL. */
public final class WalkTest {
    public static void main(String[] args) {
        write();
        fault();
        walk();
        walkMadeAnew();
        word();
        far();
        spent();
        thing();
        pull();
        Due.end();
    }

    private static void write() {
        WhistleBack x = new WhistleBack();
        Due.due("write(-1)", x.write(-1), -2);
        Due.due("write(256)", x.write(256), -2);
        Due.due("write(MIN)", x.write(Integer.MIN_VALUE), -2);
        Due.due("write(MAX)", x.write(Integer.MAX_VALUE), -2);
        Due.due("count(0)", x.count(0), 0);
        Due.due("write(255)", x.write(255), 1);
        Due.due("write(0)", x.write(0), 2);
        for (int i = 3; i <= 36; i++) Due.due("write, the " + i + ".", x.write('D'), i);
        Due.due("write, the 37.", x.write('D'), -4);
        Due.due("OUTSIDE ahead of FULL", x.write(256), -2);
        Due.due("OUTSIDE ahead of FULL", x.write(-1), -2);
        Due.due("count(0), full", x.count(0), 36);
        Due.due("wipe()", x.wipe(), 36);
        Due.due("wipe(), empty", x.wipe(), 0);
        Due.due("count(0), empty", x.count(0), 0);
        Due.due("write(68), anew", x.write(68), 1);
    }

    private static void faultOf(String text, int want) {
        WhistleBack x = new WhistleBack();
        Due.tell(x, text);
        Due.due("fault() of " + text, x.fault(), want);
        String was = Due.all(x);
        if (want == -9) return;
        Due.due("walk() of " + text, x.walk(), -3);
        Due.same("after walk() of " + text, Due.all(x), was);
    }

    private static void fault() {
        faultOf("", 0);
        faultOf("X", 0);
        faultOf("d00", 0);
        faultOf("W00", 0);
        faultOf("D", 1);
        faultOf("DD0", 1);
        faultOf("D0", 2);
        faultOf("D0/", 2);
        faultOf("D0:", 2);
        faultOf("D/0", 1);
        faultOf("D:0", 1);
        faultOf("D00", -9);
        faultOf("D99", -9);
        faultOf("D00D", 3);
        faultOf("D00D00", 3);
        faultOf("D00w", 3);
        faultOf("D000", 3);
        faultOf("D00W", 4);
        faultOf("D00W9", 5);
        faultOf("D00WX", 4);
        faultOf("D00W0/", 5);
        faultOf("D00W04", 5);
        faultOf("D00W03", -9);
        faultOf("D00W00", -9);
        faultOf("D00W93", -9);
        faultOf("D00T", 4);
        faultOf("D00T9", 5);
        faultOf("D00T:", 4);
        faultOf("D00T00", 5);
        faultOf("D00T0:", 5);
        faultOf("D00T01", -9);
        faultOf("D00T99", -9);
        faultOf("D00W00W10W20W30", -9);
        faultOf("D00W00W10W20W30W", 15);
        faultOf("D00W00W10W20W30W40", 15);
        faultOf("D00W00W10W20W30T01", -9);
        faultOf("D00T01T01T01T01", -9);
        faultOf("D00T01T01T01T01T", 15);
        faultOf("D00T01T01T01T01W01", -9);
        faultOf("D00W00T01W00T01W00T01W00T01", -9);
        faultOf("D00W00T01W00T01W00T01W00T01W", 27);
        faultOf("D00W00T01W00T01W00T01W00T01T", 27);
        faultOf("D00W00T01W00T01W00T01W00T01x", 27);
        faultOf("D00W00T01W00T01W00T01W00T01WWWWWWWWW", 27);
        faultOf("D00W00W10W20W30WX", 15);
    }

    private static void walk() {
        WhistleBack x = new WhistleBack();
        Due.tell(x, "D47T29W52W31T61T08");
        Due.due("walk()", x.walk(), 23);
        Due.due("count(0) stays", x.count(0), 18);
        Due.due("count(1)", x.count(1), 2);
        Due.due("count(2)", x.count(2), 3);
        Due.due("count(3)", x.count(3), 4);
        Due.due("count(4)", x.count(4), 7);
        Due.due("word(0, 0)", x.word(0, 0), 5);
        Due.due("word(0, 1)", x.word(0, 1), 2);
        Due.due("word(1, 0)", x.word(1, 0), 3);
        Due.due("word(1, 1)", x.word(1, 1), 1);
        Due.due("word(2, 0)", x.word(2, 0), -1);
        Due.due("thing(2, 0)", x.thing(2, 0), 0);
        Due.due("thing(2, 1)", x.thing(2, 1), 8);
        Due.due("walk() once more", x.walk(), 23);
        x.wipe();
        Due.due("count(1), the text wiped", x.count(1), 2);
        Due.due("walk() of no text", x.walk(), -3);
        Due.due("count(1), after that", x.count(1), 2);
        Due.tell(x, "D00");
        Due.due("walk() of D00", x.walk(), 0);
        Due.due("count(1) then", x.count(1), 0);
        Due.due("count(2) then", x.count(2), 0);
        Due.due("word(0, 0) then", x.word(0, 0), -1);
        Due.due("pull(0) then", x.pull(0), 0);
    }

    private static void walkMadeAnew() {
        WhistleBack x = Due.walkOf("D30W92W00");
        x.seed(77);
        x.see(1, 3, 0);
        x.keep(0);
        x.keep(1);
        x.call(1);
        x.call(0);
        x.hunger();
        x.lead();
        x.lead();
        x.lead();
        Due.due("count(8)", x.count(8), 2);
        Due.due("walk()", x.walk(), 20);
        int[] due = {9, 2, 0, 3, 0, -9, 0, 0, 0, 0, 1};
        for (int what = 0; what < due.length; what++) Due.due("count(" + what + ") made anew", x.count(what), due[what]);
        Due.due("word(0, 0) made anew", x.word(0, 0), 9);
        Due.due("undo()", x.undo(), -3);
        Due.due("again(0)", x.again(0), -3);
        Due.due("again(1)", x.again(1), -3);
        Due.due("seed stays", x.seed(0), 77);
        Due.due("what is SEEN stays", x.may(1), 3);
        x.call(0);
        Due.due("count(5)", x.count(5), 0);
        x.walk();
        Due.due("nothing is OWED", x.count(5), -9);
        Due.due("pay()", x.pay(), -3);
    }

    private static void word() {
        WhistleBack x = Due.walkOf("D07W50W51W02W93T72");
        Due.due("word(-1, 0)", x.word(-1, 0), -1);
        Due.due("word(4, 0)", x.word(4, 0), -1);
        Due.due("word(4, 9)", x.word(4, 9), -1);
        Due.due("word(MAX, 0)", x.word(Integer.MAX_VALUE, 0), -1);
        Due.due("word(MIN, -1)", x.word(Integer.MIN_VALUE, -1), -1);
        Due.due("word(0, 6)", x.word(0, 6), -2);
        Due.due("word(0, -1)", x.word(0, -1), -2);
        Due.due("word(0, 2)", x.word(0, 2), 2);
        Due.due("word(1, 2)", x.word(1, 2), 4);
        Due.due("word(2, 2)", x.word(2, 2), -3);
        Due.due("word(3, 2)", x.word(3, 2), 6);
        Due.due("word(0, 3)", x.word(0, 3), 1);
        Due.due("word(2, 3)", x.word(2, 3), 0);
        Due.due("word(3, 1)", x.word(3, 1), 3);
        x.hunger();
        Due.due("word(0, 2), hungry", x.word(0, 2), 3);
        Due.due("word(2, 2), hungry", x.word(2, 2), -2);
        Due.due("word(0, 0), hungry", x.word(0, 0), 5);
        x.run(1);
        Due.due("word(0, 2) at 8", x.word(0, 2), 2);
        Due.due("word(1, 2) at 8", x.word(1, 2), 4);
        WhistleBack on = Due.walkOf("D00W10");
        on.lead();
        Due.due("word(0, 3) on the lead", on.word(0, 3), 1);
        WhistleBack zero = Due.walkOf("D00W00");
        Due.due("word(0, 3) of power 0", zero.word(0, 3), 0);
    }

    private static void far() {
        WhistleBack x = Due.walkOf("D00W10W11W30W91");
        Due.due("far of W10", x.word(0, 4), 1);
        Due.due("far of W11", x.word(1, 4), 3);
        Due.due("far of W30", x.word(2, 4), 5);
        Due.due("far of W91", x.word(3, 4), 9);
        x.hunger();
        Due.due("far of W10, hungry", x.word(0, 4), 3);
        Due.due("far of W11, hungry", x.word(1, 4), 7);
        WhistleBack none = Due.walkOf("D00W00W50T01");
        Due.due("far of W00", none.word(0, 4), -9);
        Due.due("far of W10, a hare a yard off", Due.walkOf("D00W10T12").word(0, 4), 0);
        WhistleBack gap = Due.walkOf("D00W50T46");
        Due.due("comes(0, 0)", gap.comes(0, 0), 1);
        Due.due("comes(0, 4), where the hare is", gap.comes(0, 4), 0);
        Due.due("far, past the hare", gap.word(0, 4), 9);
        WhistleBack ahead = Due.walkOf("D00W50T99");
        Due.due("far, ahead of the hare", ahead.word(0, 4), 3);
        WhistleBack only = Due.walkOf("D00W70T09");
        Due.due("comes(0, 0)", only.comes(0, 0), 0);
        Due.due("far with nearer ones where he does not", only.word(0, 4), 9);
    }

    private static void spent() {
        WhistleBack x = Due.walkOf("D00W70W91W52W63");
        Due.due("spent of W70", x.word(0, 5), 7);
        Due.due("spent of W91", x.word(1, 5), 9);
        Due.due("spent of W52", x.word(2, 5), 3);
        Due.due("spent of W63", x.word(3, 5), 6);
        WhistleBack names = Due.walkOf("D00W02W12W22W92");
        Due.due("spent of W02", names.word(0, 5), 0);
        Due.due("spent of W12", names.word(1, 5), 1);
        Due.due("spent of W22", names.word(2, 5), 1);
        Due.due("spent of W92", names.word(3, 5), 5);
    }

    private static void thing() {
        WhistleBack x = Due.walkOf("D00T91T09");
        Due.due("thing(0, 0)", x.thing(0, 0), 9);
        Due.due("thing(0, 1)", x.thing(0, 1), 1);
        Due.due("thing(1, 0)", x.thing(1, 0), 0);
        Due.due("thing(1, 1)", x.thing(1, 1), 9);
        Due.due("thing(1, 2)", x.thing(1, 2), -2);
        Due.due("thing(1, -1)", x.thing(1, -1), -2);
        Due.due("thing(2, 0)", x.thing(2, 0), -1);
        Due.due("thing(2, 5)", x.thing(2, 5), -1);
        Due.due("thing(-1, 0)", x.thing(-1, 0), -1);
        Due.due("thing(MAX, 0)", x.thing(Integer.MAX_VALUE, 0), -1);
    }

    private static void pull() {
        WhistleBack x = Due.walkOf("D00T23T76");
        int[] due = {1, 2, 3, 2, 3, 4, 5, 6, 5, 4};
        for (int y = 0; y <= 9; y++) Due.due("pull(" + y + ")", x.pull(y), due[y]);
        Due.due("pull(-1)", x.pull(-1), -2);
        Due.due("pull(10)", x.pull(10), -2);
        Due.due("pull(MIN)", x.pull(Integer.MIN_VALUE), -2);
        WhistleBack weak = Due.walkOf("D00T01");
        Due.due("pull(0) of T01", weak.pull(0), 1);
        Due.due("pull(1) of T01", weak.pull(1), 0);
        Due.due("pull(9) of T01", weak.pull(9), 0);
        weak.hunger();
        weak.lead();
        Due.due("pull(0), hungry, on the lead", weak.pull(0), 1);
    }
}
