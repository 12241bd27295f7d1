/** The edges of promises 20 to 22: SEEN, unseen, MAY. */
final class EdgesSeenTest {
    private static final int ALL = 1023;

    public static void main(String[] args) throws IllegalAccessException {
        Due.runTests(EdgesSeenTest.class);
    }

    private static WhistleBack sixSeen() {
        WhistleBack x = Due.busy();
        for (int word = 0; word <= 3; word++) x.see(word, 2 * word, word % 2);
        return x;
    }

    // ---- promise 20: see

    static void promise20_thereIsNoSuchWord() {
        for (int word : Due.outside(0, 3)) {
            Due.refused("see(" + word + ", 0, 0)", Due::busy, x -> x.see(word, 0, 0), -1);
            Due.refused("see(" + word + ", 9, 1)", Due::busy, x -> x.see(word, 9, 1), -1);
        }
        Due.refused("see(0, 0, 0), no words", WhistleBack::new, x -> x.see(0, 0, 0), -1);
        Due.refused("see(1, 0, 0), one word", () -> Due.walkOf("D00W50"), x -> x.see(1, 0, 0), -1);
    }

    static void promise20_yIs0To9() {
        WhistleBack x = Due.walkOf("D00W50W50W50W50");
        Due.due("see(0, 0, 0)", x.see(0, 0, 0), 1);
        Due.due("see(3, 9, 1)", x.see(3, 9, 1), 2);
        for (int y : Due.outside(0, 9)) {
            Due.refused("see(0, " + y + ", 0)", Due::busy, z -> z.see(0, y, 0), -2);
        }
    }

    static void promise20_cameIs0Or1() {
        for (int came : Due.outside(0, 1)) {
            Due.refused("see(0, 0, " + came + ")", Due::busy, x -> x.see(0, 0, came), -2);
        }
    }

    static void promise20_sixAtMost() {
        WhistleBack x = Due.walkOf("D00W50");
        for (int i = 1; i <= 6; i++) Due.due("the " + i + ".", x.see(0, 3, 1), i);
        Due.due("the 7.", x.see(0, 3, 1), -4);
        Due.due("count(10)", x.count(10), 6);
        Due.refused("see(0, 9, 0), full", EdgesSeenTest::sixSeen, z -> z.see(0, 9, 0), -4);
        Due.refused("see(3, 0, 1), full", EdgesSeenTest::sixSeen, z -> z.see(3, 0, 1), -4);
    }

    static void promise20_unknownComesAheadOfOutside() {
        for (int word : Due.outside(0, 3)) {
            Due.due("see(" + word + ", 10, 0)", Due.busy().see(word, 10, 0), -1);
            Due.due("see(" + word + ", 0, 2)", Due.busy().see(word, 0, 2), -1);
            Due.due("see(" + word + ", -1, -1)", Due.busy().see(word, -1, -1), -1);
        }
    }

    static void promise20_unknownAndOutsideComeAheadOfFull() {
        for (int word : Due.outside(0, 3)) Due.refused("see, full", EdgesSeenTest::sixSeen, x -> x.see(word, 0, 0), -1);
        for (int y : Due.outside(0, 9)) Due.refused("see, full", EdgesSeenTest::sixSeen, x -> x.see(0, y, 0), -2);
        for (int came : Due.outside(0, 1)) Due.refused("see, full", EdgesSeenTest::sixSeen, x -> x.see(0, 0, came), -2);
    }

    static void promise20_itIsNoActAndStays() {
        WhistleBack x = Due.walkOf("D00W50");
        x.run(1);
        x.keep(0);
        x.see(0, 0, 1);
        Due.due("count(9)", x.count(9), 1);
        x.undo();
        Due.due("count(10), undone", x.count(10), 1);
        x.again(0);
        Due.due("count(10), gone on", x.count(10), 1);
        x.walk();
        Due.due("count(10), made anew", x.count(10), 1);
        x.lead();
        Due.due("see on the lead", x.see(0, 0, 1), 2);
    }

    static void promise20_whatIsSeenOfWordsThatAreGoneFillsTheSixToo() {
        WhistleBack x = Due.walkOf("D00W50W50");
        for (int i = 1; i <= 5; i++) x.see(1, 0, 1);
        Due.tell(x, "D00W50");
        x.walk();
        Due.due("the 6.", x.see(0, 0, 1), 6);
        Due.due("the 7.", x.see(0, 0, 1), -4);
    }

    // ---- promise 21: unsee

    static void promise21_nothingWasSeen() {
        WhistleBack x = new WhistleBack();
        Due.due("unsee()", x.unsee(), 0);
        Due.due("count(10)", x.count(10), 0);
    }

    static void promise21_oneAndSixWereSeen() {
        WhistleBack x = Due.walkOf("D00W50");
        x.see(0, 0, 0);
        Due.due("unsee(), one", x.unsee(), 1);
        Due.due("unsee(), none", x.unsee(), 0);
        for (int i = 0; i < 8; i++) x.see(0, 0, 0);
        Due.due("unsee(), six", x.unsee(), 6);
        Due.due("may(0)", x.may(0), ALL);
        Due.due("see, not full any more", x.see(0, 0, 1), 1);
        Due.due("may(0)", x.may(0), ALL - 1);
    }

    static void promise21_nothingElseChanges() {
        WhistleBack x = Due.busy();
        x.unsee();
        Due.due("seed(77)", x.seed(77), 77);
        Due.same("the acts", Due.undone(x), Due.undone(Due.busy()));
    }

    // ---- promise 22: may

    static void promise22_thereIsNoSuchWord() {
        for (int word : Due.outside(0, 3)) Due.refused("may(" + word + ")", Due::busy, x -> x.may(word), -1);
        Due.refused("may(0), no words", WhistleBack::new, x -> x.may(0), -1);
        Due.refused("may(1), one word", () -> Due.walkOf("D00W50"), x -> x.may(1), -1);
    }

    static void promise22_nothingSeenAllTenStrengths() {
        WhistleBack x = Due.walkOf("D00W00W91W52W33T09");
        for (int word = 0; word <= 3; word++) Due.due("may(" + word + ")", x.may(word), ALL);
    }

    static void promise22_fromEveryYardHeCameOrNot() {
        for (int y = 0; y <= 9; y++) {
            for (int kind = 0; kind <= 3; kind++) {
                int needed = 1 + (kind == 1 ? y / 4 : y / 2);
                int less = (1 << needed) - 1;
                WhistleBack x = Due.walkOf("D00W5" + kind);
                x.see(0, y, 1);
                Due.due("may(0) of kind " + kind + ", came from " + y, x.may(0), ALL - less);
                x.unsee();
                x.see(0, y, 0);
                Due.due("may(0) of kind " + kind + ", not from " + y, x.may(0), less);
            }
        }
    }

    static void promise22_bit0AloneBit9AloneNoBit() {
        WhistleBack x = Due.walkOf("D00W50W50T09");
        x.see(0, 0, 1);
        Due.due("9 against 9", x.may(0), 512);
        x.see(0, 0, 0);
        Due.due("came and did not", x.may(0), 0);
        Due.due("another word", x.may(1), ALL);
        WhistleBack y = Due.walkOf("D00W50T29");
        y.see(0, 2, 1);
        Due.due("8 against 9", y.may(0), 0);
        y.unsee();
        y.see(0, 2, 0);
        Due.due("8 against 9, did not come", y.may(0), ALL);
        WhistleBack z = Due.walkOf("D00W50");
        z.see(0, 0, 0);
        Due.due("did not come from 0", z.may(0), 1);
    }

    static void promise22_allSixAreLookedAt() {
        WhistleBack x = Due.walkOf("D00W50");
        x.see(0, 0, 1);
        x.see(0, 2, 1);
        x.see(0, 4, 1);
        x.see(0, 6, 1);
        x.see(0, 6, 1);
        Due.due("may(0), 4 at least", x.may(0), ALL - 15);
        x.see(0, 8, 0);
        Due.due("may(0), by the 6. not 5", x.may(0), 16);
    }

    static void promise22_hungryAsWhenAsked() {
        WhistleBack x = Due.walkOf("D00W50");
        x.hunger();
        x.see(0, 0, 1);
        Due.due("may(0), hungry", x.may(0), ALL);
        x.hunger();
        Due.due("may(0), not hungry any more", x.may(0), ALL - 1);
        x.unsee();
        x.see(0, 0, 0);
        Due.due("may(0), did not come", x.may(0), 1);
        x.hunger();
        Due.due("may(0), hungry he comes by any", x.may(0), 0);
    }

    static void promise22_thingsAsWhenAsked() {
        WhistleBack x = Due.walkOf("D00W50T09");
        x.see(0, 0, 1);
        Due.tell(x, "D00W51T03");
        x.walk();
        Due.due("may(0), 3 at least", x.may(0), ALL - 7);
        Due.tell(x, "D00W52");
        x.walk();
        Due.due("may(0), 1 at least", x.may(0), ALL - 1);
    }

    static void promise22_ofWordsThatAreGoneNothingIsLookedAt() {
        WhistleBack x = Due.walkOf("D00W50W50W50W50");
        x.see(3, 0, 0);
        x.see(1, 9, 0);
        Due.tell(x, "D00W50");
        x.walk();
        Due.due("may(0)", x.may(0), ALL);
        Due.due("may(1)", x.may(1), -1);
        Due.due("may(3)", x.may(3), -1);
        Due.due("count(10)", x.count(10), 2);
    }

    static void promise22_theStrengthThatItHasIsSetAside() {
        WhistleBack x = Due.walkOf("D00W00W90");
        x.see(0, 0, 1);
        x.see(1, 0, 0);
        Due.due("may(0)", x.may(0), ALL - 1);
        Due.due("may(1)", x.may(1), 1);
        x.lead();
        Due.due("may(0), on the lead", x.may(0), ALL - 1);
    }
}
