import java.math.BigInteger;
import java.util.function.Supplier;
import java.util.function.ToLongFunction;

/** The edges of promises 23 to 27: SHARE, RESTS, THERE, THE SEED, WALKS. */
final class EdgesSharesTest {
    private static final BigInteger TIMES = new BigInteger("6364136223846793005");
    private static final BigInteger AND = new BigInteger("1442695040888963407");

    public static void main(String[] args) throws IllegalAccessException {
        Due.runTests(EdgesSharesTest.class);
    }

    // ---- promise 23: share

    private static void shareOf(String name, WhistleBack x, int word, int above, int below) {
        Due.due(name + ": share(" + word + ", true)", x.share(word, true), above);
        Due.due(name + ": share(" + word + ", false)", x.share(word, false), below);
    }

    static void promise23_thereIsNoSuchWordAboveAndBelow() {
        for (int word : Due.outside(0, 3)) {
            Due.refused("share(" + word + ", true)", Due::busy, x -> x.share(word, true), -1);
            Due.refused("share(" + word + ", false)", Due::busy, x -> x.share(word, false), -1);
        }
        Due.refused("share(0, true), no words", WhistleBack::new, x -> x.share(0, true), -1);
        Due.refused("share(0, false), no words", WhistleBack::new, x -> x.share(0, false), -1);
        Due.refused("share(1, false), one word", () -> Due.walkOf("D00W50"), x -> x.share(1, false), -1);
    }

    static void promise23_theLeastIs0By1TheGreatest10By1() {
        shareOf("no strength", Due.walkOf("D00W00W90"), 0, 0, 1);
        shareOf("all of ten yards", Due.walkOf("D00W00W90"), 1, 10, 1);
        shareOf("one word alone", Due.walkOf("D00W90"), 0, 10, 1);
        shareOf("one word alone, no strength", Due.walkOf("D00W00"), 0, 0, 1);
        shareOf("one yard", Due.walkOf("D00W20T24"), 0, 1, 1);
    }

    static void promise23_inLeastTerms() {
        shareOf("two alike", Due.walkOf("D00W90W90"), 1, 5, 1);
        shareOf("three alike", Due.walkOf("D00W90W90W90"), 2, 10, 3);
        shareOf("four alike", Due.walkOf("D00W90W90W90W90"), 3, 5, 2);
        shareOf("four alike at two yards", Due.walkOf("D00W10W10W10W10"), 0, 1, 2);
        shareOf("three alike at two yards", Due.walkOf("D00W10W10W10"), 0, 2, 3);
        // 2 yards with three others, 2 with two, 2 with one, 4 alone.
        shareOf("6 and 8 and 12 and 48 twelfths", Due.walkOf("D00W10W20W30W90"), 3, 37, 6);
    }

    static void promise23_oneOf12() {
        // Four come from 0, 1 (2/4), three from 2, 3 (2/3): 7/6.
        shareOf("7 by 6", Due.walkOf("D00W10W20W20W20"), 1, 7, 6);
        // From 0 alone all four come: 1/4; from 1, by the others, none.
        shareOf("1 by 4", Due.walkOf("D00W20W20W20W20T24"), 0, 1, 4);
        shareOf("1 by 3", Due.walkOf("D00W20W20W20W10T24"), 0, 1, 3);
    }

    static void promise23_hungryNowTheLeadSetAsideNothingChanges() {
        WhistleBack x = Due.walkOf("D00W00");
        shareOf("not hungry", x, 0, 0, 1);
        x.hunger();
        x.lead();
        shareOf("hungry, on the lead", x, 0, 2, 1);
        WhistleBack y = Due.busy();
        y.share(0, true);
        y.share(3, false);
        Due.same("after share", Due.undone(y), Due.undone(Due.busy()));
    }

    // ---- promise 24: rests

    static void promise24_thereIsNoSuchWordTheOneOrTheOther() {
        for (int word : Due.outside(0, 3)) {
            for (int what = 0; what <= 1; what++) {
                int asked = what;
                Due.refused("rests(" + word + ", 0, " + what + ")", Due::busy, x -> x.rests(word, 0, asked), -1);
                Due.refused("rests(0, " + word + ", " + what + ")", Due::busy, x -> x.rests(0, word, asked), -1);
                Due.refused("rests of both", Due::busy, x -> x.rests(word, word, asked), -1);
            }
        }
        Due.refused("rests(0, 0, 0), no words", WhistleBack::new, x -> x.rests(0, 0, 0), -1);
    }

    static void promise24_whatIs0Or1() {
        for (int what : Due.outside(0, 1)) {
            Due.refused("rests(0, 3, " + what + ")", Due::busy, x -> x.rests(0, 3, what), -2);
        }
    }

    static void promise24_unknownComesAheadOfOutside() {
        for (int word : Due.outside(0, 3)) {
            for (int what : Due.outside(0, 1)) {
                Due.due("rests(" + word + ", 0, " + what + ")", Due.busy().rests(word, 0, what), -1);
                Due.due("rests(0, " + word + ", " + what + ")", Due.busy().rests(0, word, what), -1);
            }
        }
    }

    private static void restsOf(WhistleBack x, int v, int w, int many, int first) {
        Due.due("rests(" + v + ", " + w + ", 0)", x.rests(v, w, 0), many);
        Due.due("rests(" + v + ", " + w + ", 1)", x.rests(v, w, 1), first);
    }

    /** By power 1 at least: 3 is enough for two who call, 2 only for one, 0 for none. */
    static void promise24_power3IsEnoughForTwo2IsNot() {
        restsOf(Due.walkOf("D00W30W30"), 0, 1, 1, 11);
        restsOf(Due.walkOf("D00W20W20"), 0, 1, 2, 1);
        restsOf(Due.walkOf("D00W30W20"), 0, 1, 1, 10);
        restsOf(Due.walkOf("D00W20W30"), 0, 1, 1, 1);
        restsOf(Due.walkOf("D00W10W10"), 0, 1, 2, 1);
        restsOf(Due.walkOf("D00W00W00"), 0, 1, 1, 0);
        restsOf(Due.walkOf("D00W00W10"), 0, 1, 1, 1);
        restsOf(Due.walkOf("D00W10W00"), 0, 1, 1, 10);
    }

    static void promise24_2MoreThanThePullIsEnoughForTwo() {
        restsOf(Due.walkOf("D00W60W60T04"), 0, 1, 1, 11);
        restsOf(Due.walkOf("D00W50W50T04"), 0, 1, 2, 1);
        restsOf(Due.walkOf("D00W40W40T04"), 0, 1, 2, 1);
        restsOf(Due.walkOf("D00W30W30T04"), 0, 1, 1, 0);
    }

    static void promise24_oneWordForBoth() {
        restsOf(Due.walkOf("D00W30"), 0, 0, 1, 11);
        restsOf(Due.walkOf("D00W20"), 0, 0, 2, 1);
        restsOf(Due.walkOf("D00W00"), 0, 0, 1, 0);
    }

    static void promise24_theLastWords() {
        WhistleBack x = Due.walkOf("D00W00W00W30W20");
        restsOf(x, 3, 2, 1, 1);
        restsOf(x, 2, 3, 1, 10);
        restsOf(x, 3, 3, 2, 1);
    }

    static void promise24_fromWhereHeIsHungryOrNotOnTheLeadOrNot() {
        restsOf(Due.walkOf("D06W61W60"), 0, 1, 1, 11);
        restsOf(Due.walkOf("D06W61W50"), 0, 1, 1, 10);
        WhistleBack x = Due.walkOf("D00W20");
        x.hunger();
        x.lead();
        restsOf(x, 0, 0, 1, 11);
        WhistleBack y = Due.busy();
        y.rests(0, 3, 0);
        Due.same("after rests", Due.undone(y), Due.undone(Due.busy()));
    }

    // ---- promise 25: there

    private static void thereOf(WhistleBack x, int word, int tenths, int above, int below) {
        Due.due("there(" + word + ", " + tenths + ", true)", x.there(word, tenths, true), above);
        Due.due("there(" + word + ", " + tenths + ", false)", x.there(word, tenths, false), below);
    }

    private static void thereRefused(String call, Supplier<WhistleBack> made, int word, int tenths, int want) {
        ToLongFunction<WhistleBack> above = x -> x.there(word, tenths, true);
        ToLongFunction<WhistleBack> below = x -> x.there(word, tenths, false);
        Due.refused(call + ", above", made, above, want);
        Due.refused(call + ", below", made, below, want);
    }

    static void promise25_thereIsNoSuchWordAboveAndBelow() {
        for (int word : Due.outside(0, 3)) thereRefused("there(" + word + ", 5)", Due::busy, word, 5, -1);
        thereRefused("there(0, 5), no words", WhistleBack::new, 0, 5, -1);
        thereRefused("there(1, 5), one word", () -> Due.walkOf("D00W50"), 1, 5, -1);
    }

    static void promise25_xIs0To10AboveAndBelow() {
        for (int x : Due.outside(0, 10)) {
            thereRefused("there(0, " + x + ")", Due::busy, 0, x, -2);
            thereRefused("there(0, " + x + "), no things", () -> Due.walkOf("D00W50"), 0, x, -2);
        }
    }

    static void promise25_unknownComesAheadOfOutside() {
        for (int word : Due.outside(0, 3)) {
            for (int x : Due.outside(0, 10)) thereRefused("there(" + word + ", " + x + ")", WhistleBack::new, word, x, -1);
        }
    }

    /** The hare pulls too much if it is there: as many tenths as it is not. */
    static void promise25_oneThingByEveryTenth() {
        int[] above = {1, 9, 4, 7, 3, 1, 2, 3, 1, 1, 0};
        int[] below = {1, 10, 5, 10, 5, 2, 5, 10, 5, 10, 1};
        WhistleBack x = Due.walkOf("D00W30T04");
        for (int tenths = 0; tenths <= 10; tenths++) thereOf(x, 0, tenths, above[tenths], below[tenths]);
    }

    static void promise25_noThingsSurelyOrNot() {
        WhistleBack x = Due.walkOf("D00W10W00");
        for (int tenths = 0; tenths <= 10; tenths++) {
            thereOf(x, 0, tenths, 1, 1);
            thereOf(x, 1, tenths, 0, 1);
        }
    }

    static void promise25_fourThingsTenThousandths() {
        WhistleBack x = Due.walkOf("D00W30T04T05T06T07");
        thereOf(x, 0, 0, 1, 1);
        thereOf(x, 0, 1, 6561, 10000);
        thereOf(x, 0, 3, 2401, 10000);
        thereOf(x, 0, 5, 1, 16);
        thereOf(x, 0, 7, 81, 10000);
        thereOf(x, 0, 9, 1, 10000);
        thereOf(x, 0, 10, 0, 1);
    }

    static void promise25_onlyThingsThatPullTooMuchCount() {
        WhistleBack x = Due.walkOf("D00W30T03T04T49T15");
        // Of 3, 4, 5, 4 the first is no more than the power.
        thereOf(x, 0, 1, 729, 1000);
        thereOf(x, 0, 5, 1, 8);
        WhistleBack strong = Due.walkOf("D00W90T09T09T09T09");
        thereOf(strong, 0, 10, 1, 1);
        thereOf(strong, 0, 3, 1, 1);
    }

    static void promise25_power1AtLeastWhetherTheyAreThereOrNot() {
        WhistleBack x = Due.walkOf("D02W10T91");
        thereOf(x, 0, 0, 0, 1);
        thereOf(x, 0, 10, 0, 1);
        x.hunger();
        thereOf(x, 0, 10, 1, 1);
    }

    static void promise25_theLeadIsSetAsideAndNothingChanges() {
        WhistleBack x = Due.leashed();
        thereOf(x, 0, 10, 1, 1);
        Due.same("after there", Due.undone(x), Due.undone(Due.leashed()));
    }

    // ---- promise 26: seed

    static void promise26_0AtFirst() {
        Due.due("seed(0)", new WhistleBack().seed(0), 0);
    }

    static void promise26_theLeastAndTheGreatestLong() {
        WhistleBack x = new WhistleBack();
        long[] seeds = {Long.MIN_VALUE, Long.MAX_VALUE, -1, 1, Integer.MIN_VALUE, Integer.MAX_VALUE, 1L << 32, 0};
        long was = 0;
        for (long seed : seeds) {
            Due.due("seed(" + seed + ")", x.seed(seed), was);
            was = seed;
        }
        Due.due("seed(0)", x.seed(0), was);
    }

    static void promise26_itStaysAndNothingElseChanges() {
        WhistleBack x = Due.busy();
        Due.due("seed(78)", x.seed(78), 77);
        Due.due("seed(79)", x.seed(79), 78);
        x.seed(77);
        Due.same("after seed", Due.all(x), Due.all(Due.busy()));
        x.seed(80);
        x.again(0);
        Due.due("gone on", x.seed(81), 80);
        x.undo();
        x.walk();
        Due.due("walk made anew", x.seed(0), 81);
    }

    // ---- promise 27: walks

    static void promise27_mIs1To30() {
        WhistleBack x = Due.walkOf("D00W90W90W90W90");
        Due.due("walks(1)", x.walks(1), 1);
        Due.due("walks(30)", x.walks(30), 30);
        for (int m : Due.outside(1, 30)) {
            Due.refused("walks(" + m + ")", Due::busy, z -> z.walks(m), -2);
            Due.refused("walks(" + m + "), new", WhistleBack::new, z -> z.walks(m), -2);
        }
    }

    private static long after(long seed, int times) {
        BigInteger x = BigInteger.valueOf(seed);
        for (int i = 0; i < times; i++) x = x.multiply(TIMES).add(AND);
        return x.longValue();
    }

    /** What is left of the upper 31 of 64 bits by 20. */
    private static int leftOf(long x) {
        BigInteger bits = BigInteger.valueOf(x).mod(BigInteger.ONE.shiftLeft(64));
        return bits.shiftRight(33).mod(BigInteger.valueOf(20)).intValue();
    }

    static void promise27_theSeedWrapsIn64Bits() {
        long[] seeds = {0, 1, -1, Long.MAX_VALUE, Long.MIN_VALUE, Long.MAX_VALUE - 1, Long.MIN_VALUE + 1, 1L << 32, -(1L << 32)};
        for (long seed : seeds) {
            for (int m : new int[] {1, 2, 29, 30}) {
                WhistleBack x = new WhistleBack();
                x.seed(seed);
                Due.due("walks(" + m + ")", x.walks(m), 0);
                Due.due("the seed after " + m + " from " + seed, x.seed(0), after(seed, m));
            }
        }
    }

    /** Its upper bits are taken without a sign: as many of the seeds lead to a number below 0 as to one above. */
    static void promise27_theUpper31Bits() {
        int below = 0;
        for (long seed = -100; seed < 100; seed++) {
            WhistleBack x = Due.walkOf("D00W90W00W00W90");
            x.seed(seed);
            int word = leftOf(after(seed, 1)) / 5;
            Due.due("walks(1) by " + seed, x.walks(1), word == 0 || word == 3 ? 1 : 0);
            if (after(seed, 1) < 0) below++;
        }
        Due.due("seeds that lead below 0", below > 50 && below < 150 ? 1 : 0, 1);
    }

    /** A seed from which the next two leave just these. */
    private static long seedFor(int first, int second) {
        long seed = 0;
        while (leftOf(after(seed, 1)) != first || leftOf(after(seed, 2)) != second) seed++;
        return seed;
    }

    private static void walked(String what, WhistleBack x, int first, int second, int want) {
        x.seed(seedFor(first, second));
        Due.due(what, x.walks(2), want);
    }

    static void promise27_heRuns0To4AndNoFartherThan9() {
        for (int n = 0; n <= 4; n++) {
            // From 0 he comes by 1 up to 1 yard, and goes one farther off if not.
            walked("run " + n, Due.walkOf("D00W10"), n, 19, n <= 1 ? 1 : 0);
            walked("run " + n + " from 9", Due.walkOf("D09W50"), n, 19, 1);
            walked("run " + n + " from 7", Due.walkOf("D07W40"), n, 19, n == 0 ? 1 : 0);
        }
    }

    static void promise27_ofNoSuchWordHeRunsAllTheSame() {
        walked("words 0 of 1", Due.walkOf("D00W10"), 0, 1, 2);
        walked("then nearer: word 1 of 1 after a run by 2", Due.walkOf("D00W10"), 7, 0, 0);
        walked("word 1 of 1 after no run", Due.walkOf("D00W10"), 5, 0, 1);
        walked("no words", new WhistleBack(), 0, 19, 0);
    }

    static void promise27_paidIfHeCameAndThereIsCheese() {
        walked("paid", Due.walkOf("D10W20T13"), 0, 1, 2);
        walked("no cheese", Due.walkOf("D00W20T13"), 0, 1, 1);
        walked("paid, 9 at most", Due.walkOf("D90W90T19"), 1, 1, 2);
    }

    /** Staying, he runs by 0: what was owed ahead of it is not paid by a call in vain. */
    static void promise27_nothingIsOwedThenToo() {
        WhistleBack x = Due.walkOf("D10W50W00T05");
        x.call(0);
        walked("in vain, then from a yard off", x, 5, 1, 1);
        Due.due("count(5), nothing changes", x.count(5), 0);
        Due.due("count(3), nothing changes", x.count(3), 1);
    }

    static void promise27_aCallInVainWearsTheWordOff() {
        walked("strong enough, but in vain", Due.walkOf("D00W30T13"), 0, 1, 2);
        walked("in vain by 3 yards, then too weak", Due.walkOf("D03W20T94"), 0, 0, 2);
        walked("in vain twice", Due.walkOf("D08W40"), 0, 0, 0);
        walked("a name", Due.walkOf("D00W32T04"), 0, 0, 0);
    }

    static void promise27_onTheLeadTheSeedAlone() {
        for (int m : new int[] {1, 30}) {
            WhistleBack x = Due.walkOf("D90W90W90W90W90");
            x.lead();
            x.seed(5);
            Due.due("walks(" + m + ") on the lead", x.walks(m), 0);
            Due.due("the seed", x.seed(0), after(5, m));
        }
    }

    static void promise27_nothingChangesButTheSeed() {
        for (int m : new int[] {1, 2, 30}) {
            WhistleBack x = Due.busy();
            x.walks(m);
            Due.due("the seed", x.seed(77), after(77, m));
            Due.same("after walks", Due.all(x), Due.all(Due.busy()));
            Due.same("after walks", Due.undone(x), Due.undone(Due.busy()));
            WhistleBack on = Due.leashed();
            on.walks(m);
            on.seed(77);
            Due.same("after walks on the lead", Due.all(on), Due.all(Due.leashed()));
            Due.same("after walks on the lead", Due.undone(on), Due.undone(Due.leashed()));
        }
    }
}
