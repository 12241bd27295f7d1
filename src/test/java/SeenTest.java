/** Promises 20 to 22: SEEN, unseen, MAY. */
public final class SeenTest {
    public static void main(String[] args) {
        see();
        may();
        mayAsItIsNow();
        otherWalks();
        Due.end();
    }

    private static void see() {
        WhistleBack x = Due.walkOf("D00W50W30");
        Due.due("see(2, 0, 0)", x.see(2, 0, 0), -1);
        Due.due("see(-1, 10, 2)", x.see(-1, 10, 2), -1);
        Due.due("see(0, 10, 0)", x.see(0, 10, 0), -2);
        Due.due("see(0, -1, 0)", x.see(0, -1, 0), -2);
        Due.due("see(0, 0, 2)", x.see(0, 0, 2), -2);
        Due.due("see(0, 0, -1)", x.see(0, 0, -1), -2);
        Due.due("count(10)", x.count(10), 0);
        for (int i = 1; i <= 6; i++) Due.due("see, the " + i + ".", x.see(i % 2, 9, 0), i);
        Due.due("see, the 7.", x.see(0, 0, 0), -4);
        Due.due("UNKNOWN ahead of FULL", x.see(2, 0, 0), -1);
        Due.due("OUTSIDE ahead of FULL", x.see(0, 10, 0), -2);
        Due.due("OUTSIDE ahead of FULL", x.see(0, 0, 2), -2);
        Due.due("count(10)", x.count(10), 6);
        Due.due("count(9), it is no ACT", x.count(9), 0);
        Due.due("unsee()", x.unsee(), 6);
        Due.due("unsee(), nothing", x.unsee(), 0);
        Due.due("count(10)", x.count(10), 0);
        Due.due("may(0)", x.may(0), 1023);
        Due.due("see, anew", x.see(0, 0, 1), 1);
        Due.due("may(0), anew", x.may(0), 1022);
    }

    private static void may() {
        WhistleBack x = Due.walkOf("D07W50W31W92T46");
        Due.due("may(3)", x.may(3), -1);
        Due.due("may(-1)", x.may(-1), -1);
        Due.due("may(0)", x.may(0), 1023);
        x.see(0, 0, 1);
        Due.due("may(0), pull 2 at 0", x.may(0), 1023 & ~3);
        Due.due("may(1) is another word", x.may(1), 1023);
        x.see(0, 8, 0);
        Due.due("may(0), not from 8: power 2 is too much", x.may(0), 60);
        x.see(1, 9, 1);
        Due.due("may(1), a whistle: 3 at least", x.may(1), 1023 & ~7);
        x.see(0, 8, 1);
        Due.due("may(0), both ways", x.may(0), 0);
        WhistleBack far = Due.walkOf("D00W50");
        far.see(0, 9, 1);
        Due.due("may(0), from 9: 5 at least", far.may(0), 1023 & ~31);
        far.unsee();
        far.see(0, 0, 0);
        Due.due("may(0), not from 0", far.may(0), 1);
        WhistleBack hard = Due.walkOf("D00W50T49");
        hard.see(0, 4, 1);
        Due.due("may(0), too much pull", hard.may(0), 0);
        hard.unsee();
        hard.see(0, 4, 0);
        Due.due("may(0), too much pull", hard.may(0), 1023);
    }

    private static void mayAsItIsNow() {
        WhistleBack x = Due.walkOf("D00W50");
        x.see(0, 0, 1);
        Due.due("may(0)", x.may(0), 1022);
        x.hunger();
        Due.due("may(0), hungry", x.may(0), 1023);
        x.see(0, 4, 0);
        Due.due("may(0), hungry", x.may(0), 3);
        x.hunger();
        Due.due("may(0), not hungry", x.may(0), 6);
        x.call(0);
        x.pay();
        x.lead();
        Due.due("may(0), by no strength of its own", x.may(0), 6);
    }

    private static void otherWalks() {
        WhistleBack x = Due.walkOf("D00W50W50");
        x.see(0, 2, 1);
        x.see(1, 5, 1);
        Due.tell(x, "D00W50T24");
        x.walk();
        Due.due("count(10)", x.count(10), 2);
        Due.due("may(0), by the things there are now", x.may(0), 1023 & ~31);
        Due.due("may(1)", x.may(1), -1);
        Due.due("see(1, 0, 0)", x.see(1, 0, 0), -1);
        Due.tell(x, "D00W50W51");
        x.walk();
        Due.due("may(1), a whistle now", x.may(1), 1023 & ~3);
        Due.due("unsee()", x.unsee(), 2);
    }
}
