/** The edges of promises 9 to 14: CALLED, PAID, RUN, LEAD, HUNGRY, undone. */
final class EdgesActsTest {
    public static void main(String[] args) throws IllegalAccessException {
        Due.runTests(EdgesActsTest.class);
    }

    private static WhistleBack onTheLead() {
        WhistleBack x = Due.walkOf("D50W50W60");
        x.lead();
        return x;
    }

    // ---- promise 9: call

    static void promise09_thereIsNoSuchWord() {
        for (int word : Due.outside(0, 3)) {
            Due.refused("call(" + word + ")", Due::busy, x -> x.call(word), -1);
        }
        Due.refused("call(0), no words", WhistleBack::new, x -> x.call(0), -1);
        Due.refused("call(1), one word", () -> Due.walkOf("D00W50"), x -> x.call(1), -1);
    }

    static void promise09_onTheLeadChangesNothing() {
        for (int word = 0; word <= 3; word++) {
            int called = word;
            Due.refused("call(" + word + "), on the lead", Due::leashed, x -> x.call(called), -3);
        }
    }

    static void promise09_unknownComesAheadOfState() {
        for (int word : Due.outside(0, 3)) {
            Due.refused("call(" + word + "), on the lead", Due::leashed, x -> x.call(word), -1);
        }
    }

    static void promise09_theFirstAndTheLastWord() {
        WhistleBack x = Due.walkOf("D05W50W50W50W50");
        Due.due("call(3)", x.call(3), 1);
        Due.due("count(5)", x.count(5), 3);
        Due.due("call(0)", x.call(0), 1);
        Due.due("count(5)", x.count(5), 0);
    }

    static void promise09_asMuchAsThePullAndNotLess() {
        Due.due("power 5, pull 5", Due.walkOf("D00W50T05").call(0), 1);
        Due.due("power 5, pull 6", Due.walkOf("D00W50T06").call(0), 0);
        Due.due("power 5, pull 4", Due.walkOf("D00W50T04").call(0), 1);
        Due.due("power 1, pull 0", Due.walkOf("D00W10").call(0), 1);
        Due.due("power 0, pull 0", Due.walkOf("D00W00").call(0), 0);
        Due.due("power 1, 9 yards off", Due.walkOf("D09W50").call(0), 1);
        Due.due("power 0, 9 yards off", Due.walkOf("D09W40").call(0), 0);
        Due.due("power 0, a whistle, 9 yards off", Due.walkOf("D09W21").call(0), 0);
        Due.due("power 1, a whistle, 9 yards off", Due.walkOf("D09W31").call(0), 1);
    }

    static void promise09_heCameFromEveryYard() {
        for (int y = 0; y <= 9; y++) {
            WhistleBack x = Due.walkOf("D7" + y + "W90");
            Due.due("call(0) from " + y, x.call(0), 1);
            Due.due("count(3)", x.count(3), 7);
            Due.due("count(4)", x.count(4), 0);
            Due.due("count(5)", x.count(5), 0);
            Due.due("word(0, 0)", x.word(0, 0), 9);
        }
    }

    static void promise09_inVainStrengthIs0AtLeast() {
        for (int strength = 0; strength <= 9; strength++) {
            for (int kind = 0; kind <= 3; kind++) {
                WhistleBack x = Due.walkOf("D00W90W" + strength + kind + "T09T99");
                for (int left = strength; left > 0 && x.word(1, 3) == 0; ) {
                    left = Math.max(0, left - (kind == 2 ? 2 : 1));
                    Due.due("call(1) in vain", x.call(1), 0);
                    Due.due("word(1, 0) of W" + strength + kind, x.word(1, 0), left);
                }
                Due.due("word(0, 0), another word", x.word(0, 0), 9);
            }
        }
        for (int kind = 0; kind <= 3; kind++) {
            WhistleBack x = Due.walkOf("D00W0" + kind);
            Due.due("call(0), no strength", x.call(0), 0);
            Due.due("word(0, 0), no strength", x.word(0, 0), 0);
        }
        WhistleBack name = Due.walkOf("D09W12");
        Due.due("call(0), a name of 1", name.call(0), 0);
        Due.due("word(0, 0), a name of 1", name.word(0, 0), 0);
    }

    static void promise09_inVainYardsAre9AtMost() {
        for (int y = 0; y <= 9; y++) {
            WhistleBack x = Due.walkOf("D0" + y + "W00");
            Due.due("call(0) from " + y, x.call(0), 0);
            Due.due("count(4)", x.count(4), y == 9 ? 9 : y + 1);
        }
    }

    static void promise09_inVainNothingIsOwed() {
        WhistleBack x = Due.walkOf("D50W90W00");
        x.call(0);
        Due.due("count(5), he came", x.count(5), 0);
        Due.due("call(1)", x.call(1), 0);
        Due.due("count(5), in vain", x.count(5), -9);
        Due.due("pay()", x.pay(), -3);
        Due.due("count(3)", x.count(3), 5);
    }

    static void promise09_callsAreCountedVainOrNotRefusedOnesNot() {
        WhistleBack x = Due.walkOf("D00W90W00");
        x.call(0);
        x.call(1);
        Due.due("count(8)", x.count(8), 2);
        x.call(2);
        x.call(-1);
        Due.due("count(8), of no such word", x.count(8), 2);
        x.call(0);
        x.lead();
        x.call(0);
        Due.due("count(8), on the lead", x.count(8), 3);
    }

    /** CALLS go on being counted when the row is full: 500 of the 512 calls that an object is for. */
    static void promise09_moreCallsThanTheRowHolds() {
        WhistleBack x = new WhistleBack();
        Due.tell(x, "D00W50");
        x.walk();
        for (int i = 0; i < 500; i++) x.call(0);
        Due.due("count(8)", x.count(8), 500);
        Due.due("count(9)", x.count(9), 14);
        Due.due("undo()", x.undo(), 13);
        Due.due("count(8)", x.count(8), 499);
    }

    // ---- promise 10: pay

    static void promise10_nothingIsOwedChangesNothing() {
        Due.refused("pay(), new", WhistleBack::new, WhistleBack::pay, -3);
        Due.refused("pay(), walk made", () -> Due.walkOf("D90W50"), WhistleBack::pay, -3);
        Due.refused("pay(), on the lead", Due::leashed, WhistleBack::pay, -3);
        Due.refused("pay(), paid", () -> {
            WhistleBack x = Due.busy();
            x.pay();
            return x;
        }, WhistleBack::pay, -3);
        Due.refused("pay(), he ran", () -> {
            WhistleBack x = Due.busy();
            x.run(1);
            return x;
        }, WhistleBack::pay, -3);
        Due.refused("pay(), called in vain", () -> {
            WhistleBack x = Due.walkOf("D90W50W00");
            x.call(0);
            x.call(1);
            return x;
        }, WhistleBack::pay, -3);
    }

    private static WhistleBack owedWithout() {
        WhistleBack x = Due.walkOf("D05W50");
        x.call(0);
        return x;
    }

    static void promise10_noCheeseChangesNothing() {
        Due.refused("pay(), no cheese", EdgesActsTest::owedWithout, WhistleBack::pay, -3);
        WhistleBack x = owedWithout();
        x.pay();
        Due.due("count(5), still owed", x.count(5), 0);
    }

    static void promise10_theLastCheeseIsTaken() {
        WhistleBack x = Due.walkOf("D10W50");
        x.call(0);
        Due.due("pay()", x.pay(), 6);
        Due.due("count(3)", x.count(3), 0);
        x.call(0);
        Due.due("pay()", x.pay(), -3);
        Due.due("count(3)", x.count(3), 0);
    }

    static void promise10_all9CheesesOneByOne() {
        WhistleBack x = Due.walkOf("D90W00W10");
        x.hunger();
        for (int cheese = 8; cheese >= 0; cheese--) {
            Due.due("call(0)", x.call(0), 1);
            Due.due("pay()", x.pay(), 9 - cheese);
            Due.due("count(3)", x.count(3), cheese);
        }
        Due.due("word(1, 0), another word", x.word(1, 0), 1);
    }

    static void promise10_strengthIs9AtMost() {
        for (int strength = 1; strength <= 9; strength++) {
            WhistleBack x = Due.walkOf("D20W" + strength + "0");
            x.call(0);
            int want = strength == 9 ? 9 : strength + 1;
            Due.due("pay() for " + strength, x.pay(), want);
            Due.due("word(0, 0)", x.word(0, 0), want);
            Due.due("count(3)", x.count(3), 1);
            Due.due("count(5)", x.count(5), -9);
        }
    }

    static void promise10_theWordThatIsOwedNoOther() {
        WhistleBack x = Due.walkOf("D90W40W40W40W40");
        x.call(1);
        x.call(3);
        Due.due("pay()", x.pay(), 5);
        int[] due = {4, 4, 4, 5};
        for (int word = 0; word <= 3; word++) Due.due("word(" + word + ", 0)", x.word(word, 0), due[word]);
        Due.due("count(8)", x.count(8), 2);
        Due.due("count(4)", x.count(4), 0);
    }

    // ---- promise 11: run

    static void promise11_nIs1To9() {
        for (int n = 1; n <= 9; n++) Due.due("run(" + n + ")", Due.walkOf("D00").run(n), n);
        for (int n : Due.outside(1, 9)) {
            Due.refused("run(" + n + ")", Due::busy, x -> x.run(n), -2);
            Due.refused("run(" + n + "), new", WhistleBack::new, x -> x.run(n), -2);
        }
    }

    static void promise11_yardsAre9AtMost() {
        for (int y = 0; y <= 9; y++) {
            for (int n = 1; n <= 9; n++) {
                WhistleBack x = Due.walkOf("D0" + y);
                Due.due("run(" + n + ") from " + y, x.run(n), Math.min(9, y + n));
                Due.due("count(4)", x.count(4), Math.min(9, y + n));
            }
        }
    }

    static void promise11_onTheLeadChangesNothing() {
        Due.refused("run(1), on the lead", Due::leashed, x -> x.run(1), -3);
        Due.refused("run(9), on the lead", Due::leashed, x -> x.run(9), -3);
    }

    static void promise11_outsideComesAheadOfState() {
        for (int n : Due.outside(1, 9)) {
            Due.refused("run(" + n + "), on the lead", Due::leashed, x -> x.run(n), -2);
        }
    }

    static void promise11_nothingIsOwedFarOffOrNot() {
        WhistleBack x = Due.walkOf("D50W50");
        x.call(0);
        x.run(1);
        Due.due("count(5)", x.count(5), -9);
        Due.due("word(0, 0)", x.word(0, 0), 5);
        Due.due("count(3)", x.count(3), 5);
    }

    // ---- promise 12: lead

    static void promise12_notAt0YardsChangesNothing() {
        for (int y = 1; y <= 9; y++) {
            String text = "D5" + y + "W50";
            Due.refused("lead() at " + y, () -> Due.walkOf(text), WhistleBack::lead, -3);
        }
    }

    static void promise12_at0YardsOnItAndOffIt() {
        WhistleBack x = new WhistleBack();
        Due.due("lead()", x.lead(), 1);
        Due.due("count(7)", x.count(7), 1);
        Due.due("lead()", x.lead(), 0);
        Due.due("count(7)", x.count(7), 0);
        Due.due("lead()", x.lead(), 1);
        Due.due("count(4)", x.count(4), 0);
    }

    static void promise12_theWordThatIsOwedIs2LessHome1Less0AtLeast() {
        for (int strength = 0; strength <= 9; strength++) {
            for (int kind = 0; kind <= 3; kind++) {
                WhistleBack x = Due.walkOf("D50W90W" + strength + kind);
                x.hunger();
                Due.due("call(1)", x.call(1), 1);
                Due.due("lead()", x.lead(), 1);
                int want = Math.max(0, strength - (kind == 3 ? 1 : 2));
                Due.due("word(1, 0) of W" + strength + kind, x.word(1, 0), want);
                Due.due("count(5)", x.count(5), -9);
                Due.due("word(0, 0)", x.word(0, 0), 9);
                Due.due("lead(), off it", x.lead(), 0);
                Due.due("word(1, 0), off it", x.word(1, 0), want);
            }
        }
    }

    static void promise12_nothingOwedNoWordIsLess() {
        WhistleBack x = Due.walkOf("D00W90W53");
        x.lead();
        Due.due("word(0, 0)", x.word(0, 0), 9);
        Due.due("word(1, 0)", x.word(1, 0), 5);
        x.lead();
        x.lead();
        Due.due("word(0, 0)", x.word(0, 0), 9);
        Due.due("word(1, 0)", x.word(1, 0), 5);
    }

    static void promise12_paidForNothingIsLess() {
        WhistleBack x = Due.walkOf("D50W50");
        x.call(0);
        x.pay();
        x.lead();
        Due.due("word(0, 0)", x.word(0, 0), 6);
    }

    // ---- promise 13: hunger

    static void promise13_thenOrNotAnyMore() {
        WhistleBack x = new WhistleBack();
        for (int i = 0; i < 20; i++) {
            Due.due("hunger()", x.hunger(), 1 - i % 2);
            Due.due("count(6)", x.count(6), 1 - i % 2);
        }
    }

    static void promise13_onTheLeadToo() {
        WhistleBack x = onTheLead();
        Due.due("hunger()", x.hunger(), 1);
        Due.due("hunger()", x.hunger(), 0);
        Due.due("count(7)", x.count(7), 1);
    }

    static void promise13_whatIsOwedStays() {
        WhistleBack x = Due.walkOf("D50W50");
        x.call(0);
        x.hunger();
        Due.due("count(5)", x.count(5), 0);
        Due.due("word(0, 0)", x.word(0, 0), 5);
        Due.due("count(8)", x.count(8), 1);
        Due.due("pay()", x.pay(), 6);
    }

    // ---- promise 14: undo

    static void promise14_noneIsRefusedAndChangesNothing() {
        Due.refused("undo(), new", WhistleBack::new, WhistleBack::undo, -3);
        Due.refused("undo(), walk made anew", () -> {
            WhistleBack x = Due.busy();
            x.walk();
            return x;
        }, WhistleBack::undo, -3);
        Due.refused("undo(), gone on", () -> {
            WhistleBack x = Due.busy();
            x.again(0);
            return x;
        }, WhistleBack::undo, -3);
        Due.refused("undo(), all undone", () -> {
            WhistleBack x = Due.busy();
            Due.undone(x);
            return x;
        }, WhistleBack::undo, -3);
    }

    static void promise14_fourteenAreAllUndone() {
        WhistleBack x = Due.walkOf("D93W50");
        for (int i = 0; i < 14; i++) act(x, i);
        Due.due("count(9)", x.count(9), 14);
        for (int left = 13; left >= 0; left--) Due.due("undo()", x.undo(), left);
        Due.due("undo(), none", x.undo(), -3);
        Due.same("as at first", Due.all(x), Due.all(Due.walkOf("D93W50")));
    }

    /** Some ACT that can be done, of every sort by and by. */
    private static void act(WhistleBack x, int nth) {
        switch (nth % 7) {
            case 0: x.call(0); break;
            case 1: x.pay(); break;
            case 2: x.hunger(); break;
            case 3: x.lead(); break;
            case 4: x.lead(); break;
            case 5: x.run(1 + nth % 9); break;
            default: x.hunger();
        }
    }

    static void promise14_ofMoreTheFirstIsForgotten() {
        for (int acts = 15; acts <= 40; acts++) {
            WhistleBack x = Due.walkOf("D93W50");
            WhistleBack earlier = Due.walkOf("D93W50");
            for (int i = 0; i < acts; i++) act(x, i);
            for (int i = 0; i < acts - 14; i++) act(earlier, i);
            Due.due("count(9) after " + acts, x.count(9), 14);
            for (int left = 13; left >= 0; left--) Due.due("undo()", x.undo(), left);
            Due.due("undo(), none", x.undo(), -3);
            Due.same("undone to the first that is not forgotten", Due.stood(x), Due.stood(earlier));
        }
    }

    static void promise14_eachActIsUndoneWhole() {
        for (int acts = 1; acts <= 14; acts++) {
            WhistleBack x = Due.walkOf("D93W50");
            WhistleBack earlier = Due.walkOf("D93W50");
            for (int i = 0; i < acts; i++) act(x, i);
            for (int i = 0; i < acts - 1; i++) act(earlier, i);
            Due.due("count(9)", x.count(9), acts);
            Due.due("undo() of " + acts, x.undo(), acts - 1);
            Due.same("as ahead of it", Due.all(x), Due.all(earlier));
        }
    }

    static void promise14_whatIsRefusedIsNoAct() {
        WhistleBack x = Due.walkOf("D05W50");
        x.call(1);
        x.call(-1);
        x.pay();
        x.run(0);
        x.run(10);
        x.lead();
        Due.due("count(9)", x.count(9), 0);
        Due.due("undo()", x.undo(), -3);
    }

    static void promise14_actsThatChangeNothingAreActsToo() {
        WhistleBack x = Due.walkOf("D09W00");
        Due.due("call(0), in vain at 9", x.call(0), 0);
        Due.due("run(1) at 9", x.run(1), 9);
        Due.due("count(9)", x.count(9), 2);
        Due.due("undo()", x.undo(), 1);
        Due.due("undo()", x.undo(), 0);
    }

    static void promise14_ofWhatIsUndoneNoCallIsCounted() {
        WhistleBack x = Due.walkOf("D09W90W00");
        x.call(0);
        x.call(1);
        x.undo();
        Due.due("count(8)", x.count(8), 1);
        x.undo();
        Due.due("count(8)", x.count(8), 0);
        Due.due("count(4)", x.count(4), 9);
        x.call(1);
        Due.due("count(8)", x.count(8), 1);
    }

    static void promise14_anotherActInsteadOfOneUndone() {
        WhistleBack x = Due.walkOf("D00W50");
        x.run(2);
        x.run(3);
        x.undo();
        x.run(4);
        Due.due("count(4)", x.count(4), 6);
        Due.due("undo()", x.undo(), 1);
        Due.due("count(4)", x.count(4), 2);
        Due.due("undo()", x.undo(), 0);
        Due.due("count(4)", x.count(4), 0);
    }

    static void promise14_theTextWhatIsSeenTheSeedAndSlotsAreNotUndone() {
        WhistleBack x = Due.walkOf("D00W50");
        x.run(2);
        x.write('T');
        x.see(0, 1, 1);
        x.seed(9);
        x.keep(1);
        Due.due("undo()", x.undo(), 0);
        Due.due("count(0)", x.count(0), 7);
        Due.due("count(10)", x.count(10), 1);
        Due.due("seed(0)", x.seed(0), 9);
        Due.due("again(1)", x.again(1), 0);
        Due.due("count(4), as kept", x.count(4), 2);
    }
}
