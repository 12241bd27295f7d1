/** The edges of promises 28 to 30: kept, gone on from, counted. */
final class EdgesSlotsTest {
    public static void main(String[] args) throws IllegalAccessException {
        Due.runTests(EdgesSlotsTest.class);
    }

    // ---- promise 28: keep

    static void promise28_slotsAre0And1() {
        WhistleBack x = Due.busy();
        Due.due("keep(0)", x.keep(0), 2);
        Due.due("keep(1)", x.keep(1), 2);
        for (int slot : Due.outside(0, 1)) {
            Due.refused("keep(" + slot + ")", Due::busy, z -> z.keep(slot), -1);
            Due.refused("keep(" + slot + "), new", WhistleBack::new, z -> z.keep(slot), -1);
        }
    }

    static void promise28_itAnswersCalls() {
        WhistleBack x = new WhistleBack();
        Due.due("keep(0), new", x.keep(0), 0);
        Due.tell(x, "D00W50");
        x.walk();
        for (int calls = 1; calls <= 20; calls++) {
            x.call(0);
            Due.due("keep(0)", x.keep(0), calls);
        }
    }

    static void promise28_nothingElseChanges() {
        WhistleBack x = Due.busy();
        x.keep(0);
        x.keep(1);
        Due.same("after keep", Due.all(x), Due.all(Due.busy()));
        Due.same("the row of ACTS", Due.undone(x), Due.undone(Due.busy()));
    }

    static void promise28_oneSlotIsNotTheOther() {
        WhistleBack x = Due.walkOf("D00W50");
        x.keep(0);
        x.run(3);
        x.keep(1);
        x.again(0);
        Due.due("count(4) of slot 0", x.count(4), 0);
        x.again(1);
        Due.due("count(4) of slot 1", x.count(4), 3);
    }

    static void promise28_keptOverWhatWasKept() {
        WhistleBack x = Due.walkOf("D00W50");
        x.keep(0);
        x.run(3);
        x.keep(0);
        x.run(3);
        x.again(0);
        Due.due("count(4)", x.count(4), 3);
    }

    // ---- promise 29: again

    static void promise29_slotsAre0And1() {
        for (int slot : Due.outside(0, 1)) {
            Due.refused("again(" + slot + "), both kept", Due::busy, x -> x.again(slot), -1);
            Due.refused("again(" + slot + "), none kept", WhistleBack::new, x -> x.again(slot), -1);
        }
    }

    private static WhistleBack oneKept(int slot) {
        WhistleBack x = Due.walkOf("D35W50W61");
        x.keep(slot);
        x.call(0);
        x.run(2);
        return x;
    }

    static void promise29_noneWereKeptChangesNothing() {
        for (int slot = 0; slot <= 1; slot++) {
            int asked = slot;
            Due.refused("again(" + slot + "), new", WhistleBack::new, x -> x.again(asked), -3);
            Due.refused("again(" + slot + "), the other one kept", () -> oneKept(1 - asked), x -> x.again(asked), -3);
            Due.refused("again(" + slot + "), made anew", () -> {
                WhistleBack x = Due.busy();
                x.walk();
                x.run(1);
                return x;
            }, x -> x.again(asked), -3);
        }
    }

    static void promise29_aRefusedWalkLeavesWhatWasKept() {
        WhistleBack x = Due.busy();
        x.write('W');
        Due.due("walk()", x.walk(), -3);
        Due.due("again(0)", x.again(0), 0);
        Due.due("again(1)", x.again(1), 1);
    }

    static void promise29_allThatIsKept() {
        WhistleBack x = Due.walkOf("D91W50W62W93W03");
        x.hunger();
        x.call(0);
        x.pay();
        x.call(1);
        x.keep(0);
        String first = Due.stood(x);
        x.lead();
        x.keep(1);
        String second = Due.stood(x);
        x.lead();
        x.hunger();
        x.call(3);
        x.call(2);
        x.pay();
        x.run(7);
        Due.due("again(0)", x.again(0), 2);
        Due.same("as kept in 0", Due.stood(x), first);
        Due.same("told one by one", Due.stood(x), "6 6 9 0 8 0 1 1 0 2 ");
        Due.due("again(1)", x.again(1), 2);
        Due.same("as kept in 1", Due.stood(x), second);
        Due.same("told one by one", Due.stood(x), "6 4 9 0 8 0 -9 1 1 2 ");
    }

    static void promise29_whatIsKeptStaysAndCanBeGoneOnFromAgain() {
        WhistleBack x = Due.busy();
        for (int i = 0; i < 5; i++) {
            Due.due("again(1)", x.again(1), 1);
            x.run(9);
            x.call(0);
            x.pay();
            x.lead();
        }
        x.again(1);
        Due.same("as kept", Due.stood(x), "5 6 4 7 3 0 1 1 0 1 ");
    }

    static void promise29_theRowOfActsIsEmpty() {
        WhistleBack x = Due.busy();
        for (int i = 0; i < 20; i++) x.hunger();
        Due.due("count(9)", x.count(9), 14);
        x.again(0);
        Due.due("count(9), gone on", x.count(9), 0);
        Due.due("undo()", x.undo(), -3);
        x.run(1);
        Due.due("count(9), one act", x.count(9), 1);
        Due.due("undo()", x.undo(), 0);
        Due.due("count(4), as kept", x.count(4), 8);
    }

    static void promise29_theTextWhatIsSeenAndTheSeedStay() {
        WhistleBack x = Due.busy();
        x.seed(5);
        x.see(0, 0, 0);
        x.write('T');
        x.again(0);
        Due.due("count(0)", x.count(0), 22);
        Due.due("count(10)", x.count(10), 3);
        Due.due("seed(0)", x.seed(0), 5);
    }

    // ---- promise 30: count

    static void promise30_whatIs0To10() {
        for (int what = 0; what <= 10; what++) {
            Due.due("count(" + what + "), new", new WhistleBack().count(what), what == 5 ? -9 : 0);
        }
        for (int what : Due.outside(0, 10)) {
            Due.refused("count(" + what + ")", Due::busy, x -> x.count(what), -2);
            Due.refused("count(" + what + "), new", WhistleBack::new, x -> x.count(what), -2);
        }
    }

    static void promise30_lettersAre0To36() {
        WhistleBack x = new WhistleBack();
        for (int letters = 0; letters <= 36; letters++) {
            Due.due("count(0)", x.count(0), letters);
            x.write('D');
        }
        Due.due("count(0), full", x.count(0), 36);
    }

    static void promise30_wordsAndThingsAre0To4() {
        for (int n = 0; n <= 4; n++) {
            WhistleBack x = Due.walkOf("D00" + "W00".repeat(n) + "T01".repeat(4 - n));
            Due.due("count(1)", x.count(1), n);
            Due.due("count(2)", x.count(2), 4 - n);
        }
    }

    static void promise30_cheeseAndYardsAre0To9() {
        for (int n = 0; n <= 9; n++) {
            Due.due("count(3)", Due.walkOf("D" + n + "0").count(3), n);
            Due.due("count(4)", Due.walkOf("D0" + n).count(4), n);
        }
    }

    static void promise30_theWordThatIsOwedIs0To3OrNone() {
        WhistleBack x = Due.walkOf("D90W90W90W90W90");
        Due.due("count(5)", x.count(5), -9);
        for (int word = 0; word <= 3; word++) {
            x.call(word);
            Due.due("count(5)", x.count(5), word);
        }
        x.pay();
        Due.due("count(5), paid", x.count(5), -9);
    }

    static void promise30_hungryAndOnTheLeadAre0Or1() {
        WhistleBack x = new WhistleBack();
        x.hunger();
        Due.due("count(6)", x.count(6), 1);
        Due.due("count(7)", x.count(7), 0);
        x.lead();
        x.hunger();
        Due.due("count(6)", x.count(6), 0);
        Due.due("count(7)", x.count(7), 1);
    }

    static void promise30_actsAre0To14() {
        WhistleBack x = new WhistleBack();
        for (int acts = 0; acts <= 30; acts++) {
            Due.due("count(9)", x.count(9), Math.min(14, acts));
            x.hunger();
        }
    }

    static void promise30_seenAre0To6() {
        WhistleBack x = Due.walkOf("D00W50");
        for (int seen = 0; seen <= 10; seen++) {
            Due.due("count(10)", x.count(10), Math.min(6, seen));
            x.see(0, 0, 0);
        }
    }

    static void promise30_countingChangesNothing() {
        WhistleBack x = Due.busy();
        for (int what = -1; what <= 11; what++) x.count(what);
        Due.same("after count", Due.all(x), Due.all(Due.busy()));
        Due.same("after count", Due.undone(x), Due.undone(Due.busy()));
    }
}
