/** Promises 15 to 19: COMES, BEST, FEWEST, GOOD, JUDGED. */
public final class WordsTest {
    public static void main(String[] args) {
        comes();
        best();
        fewest();
        fewestFartherOff();
        good();
        judge();
        judgeEdges();
        fewerWords();
        nothingChanges();
        Due.end();
    }

    private static void comes() {
        WhistleBack x = Due.walkOf("D00W40W41T52");
        int[] plain = {1, 1, 1, 1, 1, 1, 1, 1, 0, 0};
        for (int y = 0; y <= 9; y++) {
            Due.due("comes(0, " + y + ")", x.comes(0, y), plain[y]);
            Due.due("comes(1, " + y + ")", x.comes(1, y), 1);
        }
        Due.due("comes(2, 0)", x.comes(2, 0), -1);
        Due.due("comes(-1, 0)", x.comes(-1, 0), -1);
        Due.due("comes(2, 10)", x.comes(2, 10), -1);
        Due.due("comes(0, 10)", x.comes(0, 10), -2);
        Due.due("comes(0, -1)", x.comes(0, -1), -2);
        x.hunger();
        Due.due("comes(0, 9), hungry", x.comes(0, 9), 1);
        x.lead();
        Due.due("comes(0, 9), on the lead", x.comes(0, 9), 1);
    }

    private static void best() {
        WhistleBack x = Due.walkOf("D00W50W41W50W91T99");
        Due.due("best(0)", x.best(0), 3);
        Due.due("best(9)", x.best(9), -9);
        Due.due("best(-1)", x.best(-1), -2);
        Due.due("best(10)", x.best(10), -2);
        WhistleBack y = Due.walkOf("D00W30W50W50W41");
        Due.due("best(0), of like ones the least", y.best(0), 1);
        Due.due("best(1)", y.best(1), 1);
        Due.due("best(2), 4 and 4 and 4", y.best(2), 1);
        Due.due("best(4), 3 and 3 and 3", y.best(4), 1);
        Due.due("best(6), the whistle", y.best(6), 3);
        y.lead();
        Due.due("best(6), on the lead", y.best(6), 3);
        WhistleBack weak = Due.walkOf("D00W10");
        Due.due("best(1)", weak.best(1), 0);
        Due.due("best(2), power 0", weak.best(2), -9);
        weak.hunger();
        Due.due("best(2), hungry", weak.best(2), 0);
    }

    private static void fewestOf(String text, int many, int row) {
        WhistleBack x = Due.walkOf(text);
        Due.due("fewest(false) of " + text, x.fewest(false), many);
        Due.due("fewest(true) of " + text, x.fewest(true), row);
    }

    private static void fewest() {
        fewestOf("D00", -9, -9);
        fewestOf("D00W10", 1, 1);
        fewestOf("D00W00", -9, -9);
        fewestOf("D00W00W10W90", 1, 2);
        fewestOf("D00W90W90W90W93", 1, 1);
        fewestOf("D09W00W00W00W40", -9, -9);
        fewestOf("D09W00W00W00W50", 1, 4);
        WhistleBack x = Due.walkOf("D00W00");
        x.hunger();
        Due.due("fewest(false), hungry", x.fewest(false), 1);
        x.lead();
        Due.due("fewest(false), on the lead", x.fewest(false), -9);
        Due.due("fewest(true), on the lead", x.fewest(true), -9);
        x.lead();
        Due.due("fewest(true), off it", x.fewest(true), 1);
    }

    /** Where the pull wears off by the yard, a call in vain may help by driving him off. */
    private static void fewestFartherOff() {
        // From 0 the pull is 9; a yard off 8, by power 8 - 0.
        fewestOf("D00W00W80T09", 2, 12);
        // The word for it wears out if it is called in vain itself.
        fewestOf("D00W80T09", -9, -9);
        // Three yards off: pull 6, power 7 less 1.
        fewestOf("D01W00W70T09", 3, 112);
        fewestOf("D01W01W71T09", 2, 12);
        fewestOf("D00W01W61T09", 4, 1112);
        fewestOf("D00W61W01T09", 4, 2221);
        fewestOf("D00W51W01T09", -9, -9);
        fewestOf("D00W01W61W01T09", 4, 1112);
        fewestOf("D00W31W01W61W61T09", 4, 1113);
        fewestOf("D00W91W61T09", 1, 1);
        // Four calls are as many as are looked at.
        fewestOf("D03W00W61T29", 4, 1112);
        fewestOf("D02W00W61T29", -9, -9);
    }

    private static void good() {
        WhistleBack x = Due.walkOf("D04W30W31W93T48");
        Due.due("good(0, 0)", x.good(0, 0), 1);
        Due.due("good(0, 4)", x.good(0, 4), -9);
        Due.due("good(1, 4)", x.good(1, 4), 6);
        Due.due("good(0, 9)", x.good(0, 9), 4);
        Due.due("good(2, 0)", x.good(2, 0), 0);
        Due.due("good(2, 4)", x.good(2, 4), -9);
        Due.due("good(3, 0)", x.good(3, 0), -1);
        Due.due("good(3, 10)", x.good(3, 10), -1);
        Due.due("good(-1, 0)", x.good(-1, 0), -1);
        Due.due("good(0, 10)", x.good(0, 10), -2);
        Due.due("good(0, -1)", x.good(0, -1), -2);
        x.hunger();
        Due.due("good(0, 0), hungry", x.good(0, 0), 0);
        Due.due("good(0, 4), hungry", x.good(0, 4), 6);
        WhistleBack free = Due.walkOf("D00W00W90");
        Due.due("good(0, 0), power 1 at least", free.good(0, 0), 1);
        Due.due("good(0, 9)", free.good(0, 9), 5);
        Due.due("good(1, 9)", free.good(1, 9), 0);
        free.lead();
        Due.due("good(0, 9), on the lead", free.good(0, 9), 5);
    }

    private static void judge() {
        WhistleBack x = Due.walkOf("D13W50W00T04");
        Due.due("call, pay, run, call, lead, off", x.judge(6, 156177), -9);
        Due.due("pay first", x.judge(1, 5), 0);
        Due.due("call, pay, pay", x.judge(3, 155), 2);
        Due.due("call, pay, call, pay without cheese", x.judge(4, 1515), 3);
        Due.due("a call in vain", x.judge(2, 12), 1);
        Due.due("no such word", x.judge(3, 183), 2);
        Due.due("no such word", x.judge(1, 4), 0);
        Due.due("9", x.judge(4, 8889), 3);
        Due.due("lead at 3 yards", x.judge(2, 87), 1);
        Due.due("call, lead, call", x.judge(3, 171), 2);
        Due.due("call, lead, run", x.judge(3, 176), 2);
        Due.due("call, lead, pay", x.judge(3, 175), 2);
        Due.due("call, lead, hungry, lead, run, call", x.judge(6, 178761), -9);
        Due.due("call, run, pay", x.judge(3, 165), 2);
        Due.due("call, nothing, pay", x.judge(3, 105), -9);
        Due.due("call, hungry, pay", x.judge(3, 185), -9);
        Due.due("hungry, call 1 at 3", x.judge(2, 82), 1);
        Due.due("call, lead, off, call: 2 less strong", x.judge(4, 1771), 3);
        x.call(0);
        Due.due("pay, from how it stands", x.judge(1, 5), -9);
        x.lead();
        Due.due("call on the lead", x.judge(1, 1), 0);
        Due.due("run on the lead", x.judge(2, 6), 1);
        Due.due("nothing, off, run", x.judge(3, 76), -9);
    }

    private static void judgeEdges() {
        WhistleBack x = Due.walkOf("D00W90");
        Due.due("judge(0, 0)", x.judge(0, 0), -2);
        Due.due("judge(7, 0)", x.judge(7, 0), -2);
        Due.due("judge(-1, 0)", x.judge(-1, 0), -2);
        Due.due("judge(MAX, 0)", x.judge(Integer.MAX_VALUE, 0), -2);
        Due.due("judge(1, -1)", x.judge(1, -1), -2);
        Due.due("judge(1, 10)", x.judge(1, 10), -2);
        Due.due("judge(1, 9)", x.judge(1, 9), 0);
        Due.due("judge(2, 9)", x.judge(2, 9), 1);
        Due.due("judge(2, 99)", x.judge(2, 99), 0);
        Due.due("judge(2, 100)", x.judge(2, 100), -2);
        Due.due("judge(6, 999999)", x.judge(6, 999999), 0);
        Due.due("judge(6, 1000000)", x.judge(6, 1000000), -2);
        Due.due("judge(6, 9)", x.judge(6, 9), 5);
        Due.due("judge(6, 0)", x.judge(6, 0), -9);
        Due.due("judge(6, MAX)", x.judge(6, Integer.MAX_VALUE), -2);
        Due.due("runs to 9 at most", x.judge(6, 666666), -9);
        WhistleBack y = Due.walkOf("D09W40T05");
        Due.due("run by 1 only: 9 at most", y.judge(2, 61), 1);
        WhistleBack z = Due.walkOf("D01W80T19");
        // A run by 1 leaves him by the hare; a run by 2 would bring him away from it.
        Due.due("run, call", z.judge(2, 61), 1);
        Due.due("run, run, call", z.judge(3, 661), -9);
        WhistleBack hungry = Due.walkOf("D00W00");
        Due.due("hungry, call", hungry.judge(2, 81), -9);
        Due.due("hungry, not any more, call", hungry.judge(3, 881), 2);
        WhistleBack four = Due.walkOf("D00W90W90W90W90");
        Due.due("judge(4, 1234)", four.judge(4, 1234), -9);
    }

    /** Words of a walk before are no words any more. */
    private static void fewerWords() {
        WhistleBack x = Due.walkOf("D00W00W90W91");
        Due.tell(x, "D00W00");
        x.walk();
        Due.due("best(0)", x.best(0), -9);
        Due.due("fewest(true)", x.fewest(true), -9);
        Due.due("judge(1, 2)", x.judge(1, 2), 0);
        Due.due("comes(1, 0)", x.comes(1, 0), -1);
        Due.tell(x, "D00W40T04");
        x.walk();
        Due.due("best(0)", x.best(0), 0);
        Due.due("share(0, true)", x.share(0, true), 8);
    }

    private static void nothingChanges() {
        WhistleBack x = Due.walkOf("D35W50W00W72W21T04T99");
        x.hunger();
        x.call(2);
        String was = Due.all(x);
        x.judge(6, 578888);
        x.judge(3, 123);
        x.fewest(true);
        x.fewest(false);
        x.best(3);
        x.good(1, 2);
        x.comes(1, 2);
        x.share(1, true);
        x.rests(0, 1, 0);
        x.there(0, 4, true);
        x.may(0);
        Due.same("after questions", Due.all(x), was);
        Due.due("undo()", x.undo(), 1);
    }
}
