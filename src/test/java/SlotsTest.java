/** Promises 28 to 30: kept, gone on from, counted. */
public final class SlotsTest {
    public static void main(String[] args) {
        refusals();
        keepAndAgain();
        rowOfActs();
        whatIsNotKept();
        count();
        Due.end();
    }

    private static void refusals() {
        WhistleBack x = Due.walkOf("D00W50");
        Due.due("keep(2)", x.keep(2), -1);
        Due.due("keep(-1)", x.keep(-1), -1);
        Due.due("keep(MAX)", x.keep(Integer.MAX_VALUE), -1);
        Due.due("again(2)", x.again(2), -1);
        Due.due("again(-1)", x.again(-1), -1);
        Due.due("again(0)", x.again(0), -3);
        Due.due("keep(1)", x.keep(1), 0);
        Due.due("again(0), only 1 was kept", x.again(0), -3);
        Due.due("again(1)", x.again(1), 0);
        x.run(2);
        Due.due("again(0)", x.again(0), -3);
        Due.due("count(4), refused", x.count(4), 2);
        Due.due("count(9), refused", x.count(9), 1);
    }

    private static void keepAndAgain() {
        WhistleBack x = Due.walkOf("D54W60W52W31W43T23");
        x.hunger();
        x.call(0);
        x.pay();
        x.run(4);
        x.call(1);
        Due.due("keep(0)", x.keep(0), 2);
        String first = stood(x);
        x.lead();
        Due.due("keep(1)", x.keep(1), 2);
        String second = stood(x);
        x.lead();
        x.hunger();
        x.run(9);
        x.call(3);
        x.call(3);
        Due.due("count(8)", x.count(8), 4);
        Due.due("again(0)", x.again(0), 2);
        Due.same("as in slot 0", stood(x), first);
        Due.due("again(1)", x.again(1), 2);
        Due.same("as in slot 1", stood(x), second);
        Due.due("count(7)", x.count(7), 1);
        Due.due("again(0), as often as one likes", x.again(0), 2);
        Due.due("pay(), still owed", x.pay(), 6);
        Due.due("keep(0), over it", x.keep(0), 2);
        x.again(1);
        x.again(0);
        Due.due("word(1, 0)", x.word(1, 0), 6);
        Due.due("count(3)", x.count(3), 3);
    }

    /** What a slot keeps, and nothing else. */
    private static String stood(WhistleBack x) {
        StringBuilder told = new StringBuilder();
        for (int word = 0; word < x.count(1); word++) told.append(x.word(word, 0)).append(' ');
        for (int what = 3; what <= 8; what++) told.append(x.count(what)).append(' ');
        return told.toString();
    }

    private static void rowOfActs() {
        WhistleBack x = Due.walkOf("D00W50");
        x.run(2);
        x.run(3);
        x.keep(0);
        Due.due("count(9), kept", x.count(9), 2);
        Due.due("undo(), after keep", x.undo(), 1);
        x.run(1);
        Due.due("again(0)", x.again(0), 0);
        Due.due("count(4)", x.count(4), 5);
        Due.due("count(9), gone on", x.count(9), 0);
        Due.due("undo()", x.undo(), -3);
        x.run(1);
        Due.due("undo()", x.undo(), 0);
        Due.due("count(4)", x.count(4), 5);
    }

    private static void whatIsNotKept() {
        WhistleBack x = Due.walkOf("D00W50");
        x.keep(0);
        x.seed(9);
        x.see(0, 1, 1);
        x.write('T');
        x.again(0);
        Due.due("the seed", x.seed(0), 9);
        Due.due("what is seen", x.count(10), 1);
        Due.due("letters", x.count(0), 7);
        Due.due("walk(), refused", x.walk(), -3);
        Due.due("again(0), still kept", x.again(0), 0);
        Due.tell(x, "D00W40");
        x.walk();
        Due.due("again(0), gone", x.again(0), -3);
    }

    private static void count() {
        WhistleBack x = Due.walkOf("D72W50W40T32");
        int[] due = {12, 2, 1, 7, 2, -9, 0, 0, 0, 0, 0};
        for (int what = 0; what <= 10; what++) Due.due("count(" + what + ")", x.count(what), due[what]);
        Due.due("count(11)", x.count(11), -2);
        Due.due("count(-1)", x.count(-1), -2);
        Due.due("count(MAX)", x.count(Integer.MAX_VALUE), -2);
        Due.due("count(MIN)", x.count(Integer.MIN_VALUE), -2);
        x.write('T');
        x.hunger();
        x.call(1);
        x.call(0);
        x.call(1);
        x.see(0, 0, 0);
        x.see(0, 0, 0);
        int[] then = {13, 2, 1, 7, 0, 1, 1, 0, 3, 4, 2};
        for (int what = 0; what <= 10; what++) Due.due("count(" + what + ") then", x.count(what), then[what]);
        x.lead();
        Due.due("count(5)", x.count(5), -9);
        Due.due("count(7)", x.count(7), 1);
        x.write('1');
        x.write('1');
        Due.due("walk()", x.walk(), 22);
    }
}
