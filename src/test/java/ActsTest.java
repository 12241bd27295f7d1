/** Promises 9 to 14: CALLED, PAID, RUN, LEAD, HUNGRY, undone. */
public final class ActsTest {
    public static void main(String[] args) {
        call();
        vainCalls();
        pay();
        run();
        lead();
        hunger();
        undo();
        undoAll();
        refusalsChangeNothing();
        Due.end();
    }

    private static void call() {
        WhistleBack x = Due.walkOf("D34W50W32T33");
        Due.due("call(2)", x.call(2), -1);
        Due.due("call(-1)", x.call(-1), -1);
        Due.due("call(MAX)", x.call(Integer.MAX_VALUE), -1);
        Due.due("call(0), power 3 and pull 2", x.call(0), 1);
        Due.due("count(4)", x.count(4), 0);
        Due.due("count(5)", x.count(5), 0);
        Due.due("count(8)", x.count(8), 1);
        Due.due("count(9)", x.count(9), 1);
        Due.due("word(0, 0)", x.word(0, 0), 5);
        Due.due("call(1) as he is there", x.call(1), 1);
        Due.due("count(5), the last one", x.count(5), 1);
        x.lead();
        Due.due("call(0) on the lead", x.call(0), -3);
        Due.due("call(2) on the lead", x.call(2), -1);
        WhistleBack even = Due.walkOf("D00W30T03");
        Due.due("call(0), power as the pull", even.call(0), 1);
        WhistleBack less = Due.walkOf("D00W30T04");
        Due.due("call(0), power 1 less", less.call(0), 0);
        WhistleBack none = Due.walkOf("D00W00");
        Due.due("call(0), no power, no pull", none.call(0), 0);
        none.hunger();
        none.lead();
        Due.due("STATE, at 1 yard", none.count(7), 0);
    }

    private static void vainCalls() {
        WhistleBack x = Due.walkOf("D18W12W50W30W13T89");
        Due.due("call(1) in vain", x.call(1), 0);
        Due.due("word(1, 0)", x.word(1, 0), 4);
        Due.due("count(4)", x.count(4), 9);
        Due.due("call(0), a name", x.call(0), 0);
        Due.due("word(0, 0), 0 at least", x.word(0, 0), 0);
        Due.due("count(4), 9 at most", x.count(4), 9);
        Due.due("call(0), spent", x.call(0), 0);
        Due.due("word(0, 0)", x.word(0, 0), 0);
        Due.due("call(3), home", x.call(3), 0);
        Due.due("word(3, 0)", x.word(3, 0), 0);
        Due.due("count(8)", x.count(8), 4);
        WhistleBack name = Due.walkOf("D29W52W91");
        Due.due("call(0)", name.call(0), 1);
        Due.due("run(9)", name.run(9), 9);
        Due.due("call(1)", name.call(1), 1);
        Due.due("count(5)", name.count(5), 1);
        WhistleBack owed = Due.walkOf("D20W10W00W42T04");
        owed.hunger();
        Due.due("call(0) in vain", owed.call(0), 0);
        WhistleBack lost = Due.walkOf("D20W50W42T05");
        Due.due("call(0)", lost.call(0), 1);
        Due.due("call(1) in vain", lost.call(1), 0);
        Due.due("nothing is owed", lost.count(5), -9);
        Due.due("pay()", lost.pay(), -3);
        Due.due("word(1, 0), 2 less", lost.word(1, 0), 2);
        Due.due("count(4), 1 off", lost.count(4), 1);
        Due.due("word(0, 0) as it was", lost.word(0, 0), 5);
    }

    private static void pay() {
        WhistleBack x = Due.walkOf("D20W80W30");
        Due.due("pay(), nothing owed", x.pay(), -3);
        x.call(0);
        Due.due("pay()", x.pay(), 9);
        Due.due("count(3)", x.count(3), 1);
        Due.due("count(5)", x.count(5), -9);
        Due.due("word(1, 0)", x.word(1, 0), 3);
        Due.due("pay() twice", x.pay(), -3);
        x.call(0);
        Due.due("pay(), 9 at most", x.pay(), 9);
        Due.due("count(3)", x.count(3), 0);
        x.call(1);
        Due.due("pay(), no cheese", x.pay(), -3);
        Due.due("count(5), still owed", x.count(5), 1);
        Due.due("count(3)", x.count(3), 0);
        Due.due("word(1, 0)", x.word(1, 0), 3);
        Due.due("count(9)", x.count(9), 5);
    }

    private static void run() {
        WhistleBack x = Due.walkOf("D10W90");
        Due.due("run(0)", x.run(0), -2);
        Due.due("run(-1)", x.run(-1), -2);
        Due.due("run(10)", x.run(10), -2);
        Due.due("run(MAX)", x.run(Integer.MAX_VALUE), -2);
        Due.due("count(9)", x.count(9), 0);
        Due.due("run(1)", x.run(1), 1);
        x.call(0);
        Due.due("count(5)", x.count(5), 0);
        Due.due("run(7)", x.run(7), 7);
        Due.due("nothing is owed", x.count(5), -9);
        Due.due("run(2)", x.run(2), 9);
        Due.due("run(9), 9 at most", x.run(9), 9);
        x.call(0);
        x.lead();
        Due.due("run(1) on the lead", x.run(1), -3);
        Due.due("run(0) on the lead", x.run(0), -2);
        Due.due("count(4)", x.count(4), 0);
    }

    private static void lead() {
        WhistleBack x = Due.walkOf("D02W90W93W10W03");
        Due.due("lead() at 2 yards", x.lead(), -3);
        x.call(0);
        Due.due("lead()", x.lead(), 1);
        Due.due("word(0, 0), 2 less", x.word(0, 0), 7);
        Due.due("count(5)", x.count(5), -9);
        Due.due("count(7)", x.count(7), 1);
        Due.due("lead(), off", x.lead(), 0);
        Due.due("count(7)", x.count(7), 0);
        Due.due("word(0, 0)", x.word(0, 0), 7);
        Due.due("lead(), nothing owed", x.lead(), 1);
        Due.due("word(0, 0)", x.word(0, 0), 7);
        x.lead();
        x.call(1);
        x.lead();
        Due.due("word(1, 0), home: 1 less", x.word(1, 0), 8);
        x.lead();
        x.call(2);
        x.lead();
        Due.due("word(2, 0), 0 at least", x.word(2, 0), 0);
        x.lead();
        x.hunger();
        Due.due("call(3), hungry", x.call(3), 1);
        x.lead();
        Due.due("word(3, 0), home: 0 at least", x.word(3, 0), 0);
        x.hunger();
        Due.due("hungry on the lead", x.count(6), 0);
        WhistleBack kinds = Due.walkOf("D90W92W91");
        kinds.call(0);
        kinds.lead();
        Due.due("word(0, 0), a name: 2 less", kinds.word(0, 0), 7);
        kinds.lead();
        kinds.call(1);
        kinds.lead();
        Due.due("word(1, 0), a whistle: 2 less", kinds.word(1, 0), 7);
        Due.due("count(3)", kinds.count(3), 9);
    }

    private static void hunger() {
        WhistleBack x = Due.walkOf("D20W50T06");
        Due.due("call(0), not hungry", x.call(0), 0);
        x.undo();
        Due.due("hunger()", x.hunger(), 1);
        Due.due("count(6)", x.count(6), 1);
        Due.due("call(0), hungry", x.call(0), 1);
        Due.due("hunger()", x.hunger(), 0);
        Due.due("owed, all the same", x.count(5), 0);
        Due.due("count(6)", x.count(6), 0);
        x.hunger();
        Due.due("pay()", x.pay(), 6);
        Due.due("hungry, paid or not", x.count(6), 1);
    }

    private static void undo() {
        WhistleBack x = Due.walkOf("D23W52W40T26");
        String start = Due.all(x);
        x.call(0);
        String called = Due.all(x);
        x.call(1);
        x.call(0);
        Due.due("undo()", x.undo(), 2);
        Due.due("undo()", x.undo(), 1);
        Due.same("undone to the first call", Due.all(x), called);
        Due.due("undo()", x.undo(), 0);
        Due.same("all undone", Due.all(x), start);
        Due.due("undo(), none left", x.undo(), -3);
        WhistleBack y = Due.walkOf("D30W60");
        y.call(0);
        y.pay();
        y.undo();
        Due.due("cheese, pay undone", y.count(3), 3);
        Due.due("owed, pay undone", y.count(5), 0);
        Due.due("strength, pay undone", y.word(0, 0), 6);
        y.lead();
        y.undo();
        Due.due("lead, undone", y.count(7), 0);
        Due.due("owed, lead undone", y.count(5), 0);
        Due.due("strength, lead undone", y.word(0, 0), 6);
        y.run(4);
        y.undo();
        Due.due("yards, run undone", y.count(4), 0);
        Due.due("owed, run undone", y.count(5), 0);
        y.hunger();
        y.undo();
        Due.due("hungry, undone", y.count(6), 0);
        Due.due("calls", y.count(8), 1);
        y.undo();
        Due.due("calls, undone", y.count(8), 0);
        y.seed(4);
        y.see(0, 1, 1);
        y.run(1);
        y.seed(5);
        y.see(0, 2, 1);
        y.undo();
        Due.due("what is seen stays", y.count(10), 2);
        Due.due("the seed stays", y.seed(0), 5);
    }

    private static void undoAll() {
        WhistleBack x = Due.walkOf("D90W90");
        for (int i = 1; i <= 17; i++) {
            x.run(1);
            Due.due("count(9) after " + i, x.count(9), Math.min(i, 14));
        }
        x.call(0);
        Due.due("count(9)", x.count(9), 14);
        Due.due("undo()", x.undo(), 13);
        Due.due("count(4)", x.count(4), 9);
        for (int left = 12; left >= 0; left--) Due.due("undo()", x.undo(), left);
        Due.due("count(4), four are forgotten", x.count(4), 4);
        Due.due("undo(), none left", x.undo(), -3);
        x.hunger();
        Due.due("count(9)", x.count(9), 1);
        Due.due("undo()", x.undo(), 0);
        Due.due("count(4)", x.count(4), 4);
    }

    private static void refusalsChangeNothing() {
        WhistleBack x = Due.walkOf("D02W90");
        x.hunger();
        String was = Due.all(x);
        x.call(1);
        x.call(-1);
        x.pay();
        x.run(0);
        x.run(10);
        x.lead();
        Due.same("after refusals", Due.all(x), was);
        x.call(0);
        x.lead();
        was = Due.all(x);
        x.call(0);
        x.run(3);
        x.pay();
        Due.same("after refusals on the lead", Due.all(x), was);
        Due.due("undo()", x.undo(), 2);
    }
}
