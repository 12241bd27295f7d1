import java.math.BigInteger;
import java.util.Arrays;

/** Promises 23 to 27: SHARE, RESTS, THERE, THE SEED, WALKS. */
public final class SharesTest {
    public static void main(String[] args) {
        share();
        rests();
        restsEdges();
        there();
        seed();
        draws();
        walks();
        walksOnTheLead();
        Due.end();
    }

    private static void shareOf(WhistleBack x, int word, int upper, int below) {
        Due.due("share(" + word + ", true)", x.share(word, true), upper);
        Due.due("share(" + word + ", false)", x.share(word, false), below);
    }

    private static void share() {
        WhistleBack x = Due.walkOf("D05W10W20W30W00");
        // From 0, 1 by three words, from 2, 3 by two, from 4, 5 by one.
        shareOf(x, 0, 2, 3);
        shareOf(x, 1, 5, 3);
        shareOf(x, 2, 11, 3);
        shareOf(x, 3, 0, 1);
        shareOf(x, 4, -1, -1);
        shareOf(x, -1, -1, -1);
        x.hunger();
        // From 0, 1 by four, 2, 3 by three, 4, 5 by two, 6, 7 by one.
        shareOf(x, 3, 1, 2);
        shareOf(x, 0, 7, 6);
        shareOf(x, 1, 13, 6);
        shareOf(x, 2, 25, 6);
        WhistleBack lone = Due.walkOf("D00W90");
        shareOf(lone, 0, 10, 1);
        lone.lead();
        shareOf(lone, 0, 10, 1);
        WhistleBack alike = Due.walkOf("D00W91W91W91W91");
        for (int word = 0; word < 4; word++) shareOf(alike, word, 5, 2);
        WhistleBack pulled = Due.walkOf("D00W91W50T96");
        // The plain one brings him from 0 to 4: at 5 the pull is 2, the power 3.
        Due.due("comes(1, 5)", pulled.comes(1, 5), 1);
        Due.due("comes(1, 6)", pulled.comes(1, 6), 0);
        shareOf(pulled, 1, 3, 1);
        shareOf(pulled, 0, 7, 1);
    }

    private static void restsOf(String text, int v, int w, int many, int first) {
        WhistleBack x = Due.walkOf(text);
        Due.due("rests(" + v + ", " + w + ", 0) of " + text, x.rests(v, w, 0), many);
        Due.due("rests(" + v + ", " + w + ", 1) of " + text, x.rests(v, w, 1), first);
    }

    private static void rests() {
        // Strong enough for two, for one alone, for none.
        String three = "D00W30W20W00";
        restsOf(three, 0, 0, 1, 11);
        restsOf(three, 0, 1, 1, 10);
        restsOf(three, 1, 0, 1, 1);
        restsOf(three, 1, 1, 2, 1);
        restsOf(three, 0, 2, 1, 10);
        restsOf(three, 2, 0, 1, 1);
        restsOf(three, 1, 2, 1, 10);
        restsOf(three, 2, 1, 1, 1);
        restsOf(three, 2, 2, 1, 0);
        restsOf("D00W40W50T03", 0, 0, 2, 1);
        restsOf("D00W40W50T03", 0, 1, 1, 1);
        restsOf("D00W40W50T03", 1, 1, 1, 11);
        restsOf("D04W50W51", 0, 1, 1, 11);
        restsOf("D04W40W41", 0, 1, 1, 1);
        restsOf("D04W40W41", 0, 0, 2, 1);
    }

    private static void restsEdges() {
        WhistleBack x = Due.walkOf("D00W20W20");
        Due.due("rests(2, 0, 0)", x.rests(2, 0, 0), -1);
        Due.due("rests(0, 2, 0)", x.rests(0, 2, 0), -1);
        Due.due("rests(-1, 0, 5)", x.rests(-1, 0, 5), -1);
        Due.due("rests(0, 2, 5)", x.rests(0, 2, 5), -1);
        Due.due("rests(0, 0, 2)", x.rests(0, 0, 2), -2);
        Due.due("rests(0, 0, -1)", x.rests(0, 0, -1), -2);
        Due.due("rests(0, 1, 0)", x.rests(0, 1, 0), 2);
        x.lead();
        Due.due("rests(0, 1, 0), on the lead", x.rests(0, 1, 0), 2);
        x.hunger();
        Due.due("rests(0, 1, 0), hungry", x.rests(0, 1, 0), 1);
        Due.due("rests(0, 1, 1), hungry", x.rests(0, 1, 1), 11);
    }

    private static void thereOf(WhistleBack x, int word, int tenths, int upper, int below) {
        Due.due("there(" + word + ", " + tenths + ", true)", x.there(word, tenths, true), upper);
        Due.due("there(" + word + ", " + tenths + ", false)", x.there(word, tenths, false), below);
    }

    private static void there() {
        WhistleBack x = Due.walkOf("D02W50W30W00T25T06");
        // From 2 by W50: 4, the pull of T25 5, of T06 4; by W30: 2.
        thereOf(x, 0, 0, 1, 1);
        thereOf(x, 0, 10, 0, 1);
        thereOf(x, 0, 3, 7, 10);
        thereOf(x, 0, 5, 1, 2);
        thereOf(x, 1, 3, 49, 100);
        thereOf(x, 1, 5, 1, 4);
        thereOf(x, 1, 10, 0, 1);
        thereOf(x, 2, 0, 0, 1);
        thereOf(x, 2, 4, 0, 1);
        thereOf(x, 3, 4, -1, -1);
        thereOf(x, 3, 11, -1, -1);
        thereOf(x, -1, 4, -1, -1);
        thereOf(x, 0, 11, -2, -2);
        thereOf(x, 0, -1, -2, -2);
        WhistleBack four = Due.walkOf("D00W10T09T09T09T09");
        thereOf(four, 0, 1, 6561, 10000);
        thereOf(four, 0, 9, 1, 10000);
        thereOf(four, 0, 10, 0, 1);
        four.lead();
        thereOf(four, 0, 5, 1, 16);
        WhistleBack none = Due.walkOf("D00W10W00");
        thereOf(none, 0, 10, 1, 1);
        thereOf(none, 0, 0, 1, 1);
        thereOf(none, 1, 5, 0, 1);
        none.hunger();
        thereOf(none, 1, 5, 1, 1);
    }

    private static void seed() {
        WhistleBack x = new WhistleBack();
        Due.due("seed(MAX)", x.seed(Long.MAX_VALUE), 0);
        Due.due("seed(MIN)", x.seed(Long.MIN_VALUE), Long.MAX_VALUE);
        Due.due("seed(-1)", x.seed(-1), Long.MIN_VALUE);
        Due.due("seed(0)", x.seed(0), -1);
        Due.due("walks(1)", x.walks(1), 0);
        Due.due("seed(0) after one", x.seed(0), 1442695040888963407L);
        Due.due("walks(0)", x.walks(0), -2);
        Due.due("walks(-1)", x.walks(-1), -2);
        Due.due("walks(31)", x.walks(31), -2);
        Due.due("walks(MAX)", x.walks(Integer.MAX_VALUE), -2);
        Due.due("seed(0), refused", x.seed(0), 0);
        x.walks(30);
        long thirty = x.seed(0);
        for (int i = 0; i < 30; i++) x.walks(1);
        Due.due("thirty times one", x.seed(0), thirty);
    }

    /** A seed from which the next draws by 20 leave just that. */
    private static long seedFor(int... draws) {
        for (long seed = 0; ; seed++) {
            if (Arrays.equals(drawsOf(seed, draws.length), draws)) return seed;
        }
    }

    private static int[] drawsOf(long seed, int many) {
        BigInteger x = BigInteger.valueOf(seed);
        int[] draws = new int[many];
        for (int i = 0; i < many; i++) {
            x = x.multiply(new BigInteger("6364136223846793005")).add(new BigInteger("1442695040888963407"));
            x = x.mod(BigInteger.ONE.shiftLeft(64));
            draws[i] = x.shiftRight(33).mod(BigInteger.valueOf(20)).intValue();
        }
        return draws;
    }

    private static void walksByDraws(String text, int want, int... draws) {
        WhistleBack x = Due.walkOf(text);
        x.seed(seedFor(draws));
        Due.due("walks(" + draws.length + ") of " + text + " by " + Arrays.toString(draws), x.walks(draws.length), want);
    }

    private static void draws() {
        for (int draw = 0; draw < 20; draw++) {
            walksByDraws("D00W10W10W10W10", draw % 5 < 2 ? 1 : 0, draw);
            walksByDraws("D00W90W00W90W00", draw / 5 % 2 == 0 ? 1 : 0, draw);
        }
        for (long seed = -3; seed < 3; seed++) {
            WhistleBack x = Due.walkOf("D00W90W90");
            x.seed(seed);
            Due.due("walks(30) by " + seed, x.walks(30), Arrays.stream(drawsOf(seed, 30)).filter(draw -> draw < 10).count());
        }
        // Paid for, the word is strong enough when he is by the hare.
        walksByDraws("D10W20T13", 2, 0, 1);
        walksByDraws("D00W20T13", 1, 0, 1);
        // One cheese is paid once.
        walksByDraws("D10W21T24", 2, 0, 0, 2);
        walksByDraws("D20W21T24", 3, 0, 0, 2);
        // Of a word that there is not he runs all the same, and stays where he is then.
        walksByDraws("D00W40", 0, 9, 4);
        walksByDraws("D00W40", 1, 5, 4);
        // What was owed before is not paid.
        WhistleBack owed = Due.walkOf("D10W20T13");
        owed.call(0);
        owed.seed(seedFor(5, 1));
        Due.due("walks(2), owed before", owed.walks(2), 0);
        Due.due("still owed", owed.count(5), 0);
    }

    private static void walks() {
        for (int draw = 0; draw < 20; draw++) {
            WhistleBack x = Due.walkOf("D06W50W31T99");
            x.hunger();
            String was = Due.all(x);
            x.seed(seedFor(draw));
            int yards = Math.min(9, 6 + draw % 5);
            int word = draw / 5;
            Due.due("walks(1), draw " + draw, x.walks(1), word < 2 ? x.comes(word, yards) : 0);
            x.seed(0);
            Due.same("nothing changes", Due.all(x), was);
            Due.due("undo()", x.undo(), 0);
        }
        // A word of no strength wears nothing; one that is paid for is stronger by and by.
        WhistleBack paid = Due.walkOf("D90W10W10W10W10T03");
        WhistleBack poor = Due.walkOf("D00W10W10W10W10T03");
        Due.due("walks(30), paid", paid.walks(30), ModelTest.walksOf(paid, 0, 30));
        Due.due("walks(30), not paid", poor.walks(30), ModelTest.walksOf(poor, 0, 30));
    }

    private static void walksOnTheLead() {
        WhistleBack x = Due.walkOf("D00W90W90W90W90");
        x.lead();
        x.seed(5);
        Due.due("walks(30) on the lead", x.walks(30), 0);
        long on = x.seed(5);
        x.lead();
        Due.due("walks(30) off it", x.walks(30), 30);
        Due.due("the seed becomes so all the same", on, x.seed(5));
    }
}
