/** The edges of promises 1 to 8: a new object, THE TEXT, its FAULT, THE WALK, WORDS, THINGS, PULL. */
final class EdgesWalkTest {
    private static final String LONGEST = "D99W00W91W52W93T01T99T05T91";

    public static void main(String[] args) throws IllegalAccessException {
        Due.runTests(EdgesWalkTest.class);
    }

    // ---- promise 1: a new object

    static void promise01_noWordsNoThings() {
        WhistleBack x = new WhistleBack();
        Due.due("count(1)", x.count(1), 0);
        Due.due("count(2)", x.count(2), 0);
        for (int i = -1; i <= 4; i++) {
            Due.due("word(" + i + ", 0)", x.word(i, 0), -1);
            Due.due("thing(" + i + ", 0)", x.thing(i, 0), -1);
        }
    }

    static void promise01_atFirstCheeseAndYardsAre0() {
        WhistleBack x = new WhistleBack();
        Due.due("count(3)", x.count(3), 0);
        Due.due("count(4)", x.count(4), 0);
    }

    static void promise01_notHungryNotOnTheLeadNothingOwedNoCalls() {
        WhistleBack x = new WhistleBack();
        Due.due("count(5)", x.count(5), -9);
        Due.due("count(6)", x.count(6), 0);
        Due.due("count(7)", x.count(7), 0);
        Due.due("count(8)", x.count(8), 0);
    }

    static void promise01_emptyTextEmptyRowNothingSeenNothingKeptSeed0() {
        WhistleBack x = new WhistleBack();
        Due.due("count(0)", x.count(0), 0);
        Due.due("count(9)", x.count(9), 0);
        Due.due("count(10)", x.count(10), 0);
        Due.due("fault()", x.fault(), 0);
        Due.due("walk()", x.walk(), -3);
        Due.due("undo()", x.undo(), -3);
        Due.due("again(0)", x.again(0), -3);
        Due.due("again(1)", x.again(1), -3);
        Due.due("unsee()", x.unsee(), 0);
        Due.due("wipe()", x.wipe(), 0);
        Due.due("seed(1)", x.seed(1), 0);
    }

    static void promise01_objectsShareNothing() {
        WhistleBack x = new WhistleBack();
        String was = Due.all(x);
        WhistleBack other = Due.leashed();
        other.walks(3);
        Due.same("after another was used", Due.all(x), was);
        Due.due("again(0)", x.again(0), -3);
        Due.due("undo()", x.undo(), -3);
    }

    /** No call throws in a new object, whatever the numbers. */
    static void promise01_everyCallOfANewObject() {
        for (int n : Due.outside(0, 9)) {
            WhistleBack x = new WhistleBack();
            Due.due("write(" + n + ")", x.write(n), n == 10 || n == 11 ? 1 : -2);
            Due.due("word", x.word(n, n), -1);
            Due.due("thing", x.thing(n, n), -1);
            Due.due("pull(" + n + ")", x.pull(n), -2);
            Due.due("call", x.call(n), -1);
            Due.due("pay", x.pay(), -3);
            Due.due("run(" + n + ")", x.run(n), -2);
            Due.due("comes", x.comes(n, n), -1);
            Due.due("best(" + n + ")", x.best(n), -2);
            Due.due("good", x.good(n, n), -1);
            Due.due("judge", x.judge(n, n), -2);
            Due.due("see", x.see(n, n, n), -1);
            Due.due("may", x.may(n), -1);
            Due.due("share, above", x.share(n, true), -1);
            Due.due("share, below", x.share(n, false), -1);
            Due.due("rests", x.rests(n, n, n), -1);
            Due.due("there, above", x.there(n, n, true), -1);
            Due.due("there, below", x.there(n, n, false), -1);
            Due.due("keep", x.keep(n), -1);
            Due.due("again", x.again(n), -1);
        }
    }

    // ---- promise 2: write

    static void promise02_theLeastLetterIs0TheGreatest255() {
        WhistleBack x = new WhistleBack();
        Due.due("write(0)", x.write(0), 1);
        Due.due("write(255)", x.write(255), 2);
        for (int letter = 0; letter <= 255; letter++) {
            Due.due("write(" + letter + ")", new WhistleBack().write(letter), 1);
        }
    }

    static void promise02_outsideChangesNothing() {
        for (int letter : Due.outside(0, 255)) {
            Due.refused("write(" + letter + "), empty", WhistleBack::new, x -> x.write(letter), -2);
            Due.refused("write(" + letter + ")", Due::busy, x -> x.write(letter), -2);
        }
    }

    private static WhistleBack full() {
        WhistleBack x = Due.busy();
        while (x.count(0) < 36) x.write('W');
        return x;
    }

    static void promise02_the36thIsTakenThe37thIsRefused() {
        WhistleBack x = new WhistleBack();
        for (int i = 1; i <= 36; i++) Due.due("the " + i + ".", x.write(i == 1 ? 'D' : '0'), i);
        Due.due("the 37.", x.write('0'), -4);
        Due.due("the 37. once more", x.write('D'), -4);
        Due.due("count(0)", x.count(0), 36);
    }

    static void promise02_fullChangesNothing() {
        Due.refused("write('W'), full", EdgesWalkTest::full, x -> x.write('W'), -4);
        Due.refused("write(0), full", EdgesWalkTest::full, x -> x.write(0), -4);
        Due.refused("write(255), full", EdgesWalkTest::full, x -> x.write(255), -4);
    }

    static void promise02_outsideComesAheadOfFull() {
        for (int letter : Due.outside(0, 255)) {
            Due.refused("write(" + letter + "), full", EdgesWalkTest::full, x -> x.write(letter), -2);
        }
    }

    static void promise02_fullIsNotForEver() {
        WhistleBack x = full();
        x.wipe();
        Due.due("write, wiped", x.write('D'), 1);
    }

    static void promise02_theWalkStaysAsItIs() {
        WhistleBack x = Due.walkOf("D12W33");
        x.write('W');
        Due.due("count(1)", x.count(1), 1);
        Due.due("count(3)", x.count(3), 1);
        Due.due("word(0, 0)", x.word(0, 0), 3);
    }

    // ---- promise 3: wipe

    static void promise03_anEmptyTextIsWiped() {
        WhistleBack x = new WhistleBack();
        Due.due("wipe()", x.wipe(), 0);
        Due.due("wipe() again", x.wipe(), 0);
        Due.due("count(0)", x.count(0), 0);
    }

    static void promise03_oneLetterAndAFullText() {
        WhistleBack x = new WhistleBack();
        x.write('D');
        Due.due("wipe(), one letter", x.wipe(), 1);
        for (int i = 0; i < 40; i++) x.write('D');
        Due.due("wipe(), full", x.wipe(), 36);
        Due.due("wipe(), empty", x.wipe(), 0);
    }

    static void promise03_noLetterIsLeft() {
        WhistleBack x = new WhistleBack();
        Due.tell(x, "D00");
        x.wipe();
        Due.due("fault()", x.fault(), 0);
        x.write('0');
        Due.due("fault() of 0", x.fault(), 0);
        x.wipe();
        x.write('D');
        Due.due("fault() of D, what stood behind is gone", x.fault(), 1);
        Due.due("walk() of D", x.walk(), -3);
    }

    static void promise03_onlyTheTextIsEmpty() {
        WhistleBack x = Due.busy();
        WhistleBack y = Due.busy();
        x.wipe();
        Due.same("how it stood", Due.undone(x), Due.undone(y));
        Due.due("count(1)", x.count(1), 4);
        Due.due("count(10)", x.count(10), 2);
    }

    // ---- promise 4: fault

    private static void faultOf(String text, int want) {
        WhistleBack x = new WhistleBack();
        Due.tell(x, text);
        Due.due("fault() of " + text, x.fault(), want);
    }

    /** Behind a text each of the 256 letters is tried; only those that fit can stand there. */
    private static void lettersBehind(String text, String fitting, int wantOfThem) {
        for (int letter = 0; letter <= 255; letter++) {
            boolean fits = fitting.indexOf(letter) >= 0;
            faultOf(text + (char) letter, fits ? wantOfThem : text.length());
        }
    }

    static void promise04_anEmptyText() {
        faultOf("", 0);
    }

    static void promise04_theFirstLetterIsD() {
        lettersBehind("", "D", 1);
    }

    static void promise04_cheeseIs0To9() {
        lettersBehind("D", "0123456789", 2);
    }

    static void promise04_yardsAre0To9() {
        lettersBehind("D0", "0123456789", -9);
        lettersBehind("D9", "0123456789", -9);
    }

    static void promise04_aPartIsWOrT() {
        lettersBehind("D00", "WT", 4);
        lettersBehind("D00W00", "WT", 7);
        lettersBehind("D00T01", "WT", 7);
    }

    static void promise04_strengthIs0To9() {
        lettersBehind("D00W", "0123456789", 5);
    }

    static void promise04_kindIs0To3() {
        lettersBehind("D00W0", "0123", -9);
        lettersBehind("D00W9", "0123", -9);
    }

    static void promise04_howFarAThingIsOffIs0To9() {
        lettersBehind("D00T", "0123456789", 5);
    }

    static void promise04_whatAThingPullsIs1To9() {
        lettersBehind("D00T0", "123456789", -9);
        lettersBehind("D00T9", "123456789", -9);
    }

    static void promise04_noPartsAtAll() {
        faultOf("D00", -9);
    }

    static void promise04_wordsAre4AtMost() {
        faultOf("D00W00W00W00W00", -9);
        lettersBehind("D00W00W00W00W00", "T", 16);
        faultOf("D00W00W00W00W00W00", 15);
    }

    static void promise04_thingsAre4AtMost() {
        faultOf("D00T01T01T01T01", -9);
        lettersBehind("D00T01T01T01T01", "W", 16);
        faultOf("D00T01T01T01T01T01", 15);
    }

    static void promise04_fourOfEachAndNothingBehind() {
        faultOf(LONGEST, -9);
        lettersBehind(LONGEST, "", 0);
    }

    static void promise04_notAtItsEndIsItsLength() {
        for (int length = 0; length <= LONGEST.length(); length++) {
            boolean ends = length > 0 && length % 3 == 0;
            faultOf(LONGEST.substring(0, length), ends ? -9 : length);
        }
    }

    static void promise04_onlyTheFirstFaultIsTold() {
        faultOf("XXX", 0);
        faultOf("DXX", 1);
        faultOf("D0XW", 2);
        faultOf("D00XXX", 3);
        faultOf("D00W09T00", 5);
    }

    /** What comes behind, and how long the text is, mends nothing and makes nothing worse. */
    static void promise04_whateverComesBehind() {
        StringBuilder text = new StringBuilder("X");
        while (text.length() < 36) text.append("D00W00".charAt(text.length() % 6));
        faultOf(text.toString(), 0);
        text = new StringBuilder(LONGEST);
        while (text.length() < 36) text.append("W00".charAt(text.length() % 3));
        faultOf(text.toString(), 27);
        text = new StringBuilder("D00W00W00W00W00W00");
        while (text.length() < 36) text.append("T01".charAt(text.length() % 3));
        faultOf(text.toString(), 15);
    }

    static void promise04_askingChangesNothing() {
        WhistleBack x = Due.busy();
        x.write('W');
        String was = Due.all(x);
        Due.due("fault()", x.fault(), 21);
        Due.due("fault() again", x.fault(), 21);
        Due.same("after fault()", Due.all(x), was);
    }

    // ---- promise 5: walk

    static void promise05_everyNumberOfWordsAndThings() {
        for (int words = 0; words <= 4; words++) {
            for (int things = 0; things <= 4; things++) {
                WhistleBack x = new WhistleBack();
                Due.tell(x, "D00" + "W00".repeat(words) + "T01".repeat(things));
                Due.due("walk() of " + words + " words, " + things + " things", x.walk(), 10 * words + things);
                Due.due("count(1)", x.count(1), words);
                Due.due("count(2)", x.count(2), things);
            }
        }
    }

    static void promise05_cheeseAndYardsAre0To9() {
        for (int n = 0; n <= 9; n++) {
            WhistleBack x = Due.walkOf("D" + n + (9 - n));
            Due.due("count(3)", x.count(3), n);
            Due.due("count(4)", x.count(4), 9 - n);
        }
    }

    private static WhistleBack busyWith(String text) {
        WhistleBack x = Due.busy();
        Due.tell(x, text);
        return x;
    }

    static void promise05_aFaultIsRefusedAndChangesNothing() {
        String[] faults = {"", "D", "D0", "X00", "D0X", "D00W", "D00W0", "D00W04", "D00T00", "D00W00W00W00W00W00",
            "D00T01T01T01T01T01", LONGEST + "W"};
        for (String text : faults) {
            Due.refused("walk() of " + text, () -> busyWith(text), WhistleBack::walk, -3);
        }
    }

    static void promise05_theTextStaysAsItIs() {
        WhistleBack x = Due.walkOf(LONGEST);
        Due.due("count(0)", x.count(0), 27);
        Due.due("walk() again", x.walk(), 44);
        x.write('W');
        Due.due("fault(), one letter more", x.fault(), 27);
    }

    static void promise05_theRowIsEmptyAndWhatWasKeptIsGone() {
        WhistleBack x = Due.busy();
        x.walk();
        Due.due("count(9)", x.count(9), 0);
        Due.due("undo()", x.undo(), -3);
        Due.due("again(0)", x.again(0), -3);
        Due.due("again(1)", x.again(1), -3);
    }

    static void promise05_seenAndTheSeedStay() {
        WhistleBack x = Due.busy();
        int may = x.may(0);
        x.hunger();
        x.walk();
        Due.due("count(10)", x.count(10), 2);
        x.hunger();
        Due.due("may(0)", x.may(0), may);
        Due.due("seed(0)", x.seed(0), 77);
    }

    static void promise05_madeAnewItIsAsAtFirst() {
        WhistleBack x = Due.leashed();
        x.walk();
        int[] due = {21, 4, 2, 3, 8, -9, 0, 0, 0, 0, 2};
        for (int what = 0; what < due.length; what++) Due.due("count(" + what + ")", x.count(what), due[what]);
        int[] strengths = {5, 6, 4, 7};
        for (int word = 0; word < 4; word++) Due.due("word(" + word + ", 0)", x.word(word, 0), strengths[word]);
        WhistleBack y = Due.busy();
        y.walk();
        Due.due("nothing is OWED", y.count(5), -9);
        Due.due("pay()", y.pay(), -3);
    }

    static void promise05_ofAnEarlierWalkNoWordAndNoThingIsLeft() {
        WhistleBack x = Due.walkOf(LONGEST);
        Due.tell(x, "D00W92");
        x.walk();
        Due.due("word(1, 0)", x.word(1, 0), -1);
        Due.due("call(1)", x.call(1), -1);
        Due.due("thing(0, 0)", x.thing(0, 0), -1);
        Due.due("pull(9)", x.pull(9), 0);
        Due.due("best(0)", x.best(0), 0);
    }

    // ---- promise 6: word

    private static final String FOUR = "D04W00W91W52W33T13";

    static void promise06_thereIsNoSuchWord() {
        for (int word : Due.outside(0, 3)) {
            for (int what = 0; what <= 5; what++) {
                int asked = what;
                Due.refused("word(" + word + ", " + what + ")", Due::busy, x -> x.word(word, asked), -1);
            }
        }
        Due.refused("word(0, 0), no words", WhistleBack::new, x -> x.word(0, 0), -1);
        Due.refused("word(1, 0), one word", () -> Due.walkOf("D00W50"), x -> x.word(1, 0), -1);
    }

    static void promise06_theFirstAndTheLastWord() {
        WhistleBack x = Due.walkOf(FOUR);
        Due.due("word(0, 0)", x.word(0, 0), 0);
        Due.due("word(3, 0)", x.word(3, 0), 3);
    }

    static void promise06_whatIs0To5() {
        for (int what : Due.outside(0, 5)) {
            Due.refused("word(0, " + what + ")", Due::busy, x -> x.word(0, what), -2);
            Due.refused("word(3, " + what + ")", Due::busy, x -> x.word(3, what), -2);
        }
    }

    static void promise06_unknownComesAheadOfOutside() {
        for (int word : Due.outside(0, 3)) {
            for (int what : Due.outside(0, 5)) {
                Due.due("word(" + word + ", " + what + ")", Due.busy().word(word, what), -1);
            }
        }
    }

    static void promise06_everyStrengthAndEveryKind() {
        for (int strength = 0; strength <= 9; strength++) {
            for (int kind = 0; kind <= 3; kind++) {
                WhistleBack x = Due.walkOf("D00W" + strength + kind);
                Due.due("word(0, 0)", x.word(0, 0), strength);
                Due.due("word(0, 1)", x.word(0, 1), kind);
            }
        }
    }

    static void promise06_powerIsLessByHalfTheYardsCutAWhistleByAQuarter() {
        int[] halves = {0, 0, 1, 1, 2, 2, 3, 3, 4, 4};
        int[] quarters = {0, 0, 0, 0, 1, 1, 1, 1, 2, 2};
        for (int y = 0; y <= 9; y++) {
            WhistleBack x = Due.walkOf("D0" + y + "W90W91W92W93");
            for (int word = 0; word <= 3; word++) {
                int less = word == 1 ? quarters[y] : halves[y];
                Due.due("word(" + word + ", 2) at " + y, x.word(word, 2), 9 - less);
            }
        }
    }

    static void promise06_powerOfTheHungryIs1MoreThan9Too() {
        WhistleBack x = Due.walkOf("D00W90W00");
        x.hunger();
        Due.due("word(0, 2)", x.word(0, 2), 10);
        Due.due("word(1, 2)", x.word(1, 2), 1);
        Due.due("word(0, 0)", x.word(0, 0), 9);
    }

    /** That it is 0 at least is said of PULL and of STRENGTH, not of POWER. */
    static void promise06_powerMayBeLessThan0() {
        WhistleBack x = Due.walkOf("D09W00W01W12");
        Due.due("word(0, 2)", x.word(0, 2), -4);
        Due.due("word(1, 2)", x.word(1, 2), -2);
        Due.due("word(2, 2)", x.word(2, 2), -3);
        x.hunger();
        Due.due("word(0, 2), hungry", x.word(0, 2), -3);
    }

    static void promise06_comesByAsMuchAsThePullAndBy1AtLeast() {
        Due.due("power 3, pull 3", Due.walkOf("D00W30T03").word(0, 3), 1);
        Due.due("power 3, pull 4", Due.walkOf("D00W30T04").word(0, 3), 0);
        Due.due("power 1, pull 0", Due.walkOf("D00W10").word(0, 3), 1);
        Due.due("power 0, pull 0", Due.walkOf("D00W00").word(0, 3), 0);
        Due.due("power 0, pull 0, 2 yards off", Due.walkOf("D02W10").word(0, 3), 0);
        Due.due("power -4, pull 0", Due.walkOf("D09W00").word(0, 3), 0);
    }

    static void promise06_farFrom0To9OrNone() {
        Due.due("far of all", Due.walkOf("D00W90").word(0, 4), 9);
        Due.due("far of 5, plain", Due.walkOf("D00W50").word(0, 4), 9);
        Due.due("far of 4, plain", Due.walkOf("D00W40").word(0, 4), 7);
        Due.due("far of 1, plain", Due.walkOf("D00W10").word(0, 4), 1);
        Due.due("far of 3, a whistle", Due.walkOf("D00W31").word(0, 4), 9);
        Due.due("far of 2, a whistle", Due.walkOf("D00W21").word(0, 4), 7);
        Due.due("far of 0", Due.walkOf("D00W00").word(0, 4), -9);
        Due.due("from 0 by 1 alone", Due.walkOf("D00W10T33T12").word(0, 4), 0);
        Due.due("only from 0", Due.walkOf("D00W20T24").word(0, 4), 0);
        Due.due("from none, it pulls too much everywhere", Due.walkOf("D00W10T49T09T99").word(0, 4), -9);
    }

    static void promise06_farBeyondYardsFromWhichHeDoesNotCome() {
        WhistleBack x = Due.walkOf("D00W70T09");
        Due.due("comes(0, 0)", x.comes(0, 0), 0);
        Due.due("word(0, 4)", x.word(0, 4), 9);
    }

    /** SPENT is how many calls in vain there are till he who is far off hears of no strength any more. */
    static void promise06_spentIn0To9CallsAsTheyAre() {
        for (int strength = 0; strength <= 9; strength++) {
            for (int kind = 0; kind <= 3; kind++) {
                WhistleBack x = Due.walkOf("D07W" + strength + kind + "T79T89T99");
                int want = kind == 2 ? (strength + 1) / 2 : strength;
                Due.due("word(0, 5) of W" + strength + kind, x.word(0, 5), want);
                int calls = 0;
                while (x.word(0, 0) > 0 && x.word(0, 3) == 0) {
                    x.call(0);
                    calls++;
                }
                if (x.word(0, 0) == 0) Due.due("calls in vain of W" + strength + kind, calls, want);
            }
        }
        Due.due("the least", Due.walkOf("D00W00").word(0, 5), 0);
        Due.due("the greatest", Due.walkOf("D00W90").word(0, 5), 9);
        Due.due("a name of 1", Due.walkOf("D00W12").word(0, 5), 1);
        Due.due("a name of 9", Due.walkOf("D00W92").word(0, 5), 5);
        Due.due("a name of 0", Due.walkOf("D00W02").word(0, 5), 0);
    }

    static void promise06_theLeadIsSetAside() {
        WhistleBack x = Due.walkOf("D00W30W02");
        x.lead();
        Due.due("word(0, 2)", x.word(0, 2), 3);
        Due.due("word(0, 3)", x.word(0, 3), 1);
        Due.due("word(0, 4)", x.word(0, 4), 5);
        Due.due("word(0, 5)", x.word(0, 5), 3);
    }

    static void promise06_askingChangesNothing() {
        WhistleBack x = Due.busy();
        for (int word = 0; word <= 3; word++) {
            for (int what = 0; what <= 5; what++) x.word(word, what);
        }
        Due.same("after word", Due.all(x), Due.all(Due.busy()));
        Due.same("after word", Due.undone(x), Due.undone(Due.busy()));
    }

    // ---- promise 7: thing

    static void promise07_thereIsNoSuchThing() {
        for (int thing : Due.outside(0, 1)) {
            Due.refused("thing(" + thing + ", 0)", Due::busy, x -> x.thing(thing, 0), -1);
            Due.refused("thing(" + thing + ", 1)", Due::busy, x -> x.thing(thing, 1), -1);
        }
        Due.refused("thing(0, 0), no things", WhistleBack::new, x -> x.thing(0, 0), -1);
        Due.refused("thing(4, 0), four things", () -> Due.walkOf(LONGEST), x -> x.thing(4, 0), -1);
    }

    static void promise07_theFirstAndTheLastThing() {
        WhistleBack x = Due.walkOf(LONGEST);
        int[] far = {0, 9, 0, 9};
        int[] pulls = {1, 9, 5, 1};
        for (int thing = 0; thing <= 3; thing++) {
            Due.due("thing(" + thing + ", 0)", x.thing(thing, 0), far[thing]);
            Due.due("thing(" + thing + ", 1)", x.thing(thing, 1), pulls[thing]);
        }
    }

    static void promise07_whatIs0Or1() {
        for (int what : Due.outside(0, 1)) {
            Due.refused("thing(0, " + what + ")", Due::busy, x -> x.thing(0, what), -2);
        }
    }

    static void promise07_unknownComesAheadOfOutside() {
        for (int thing : Due.outside(0, 1)) {
            for (int what : Due.outside(0, 1)) {
                Due.due("thing(" + thing + ", " + what + ")", Due.busy().thing(thing, what), -1);
            }
        }
    }

    static void promise07_everyYardAndEveryPull() {
        for (int y = 0; y <= 9; y++) {
            for (int p = 1; p <= 9; p++) {
                WhistleBack x = Due.walkOf("D00T" + y + p);
                Due.due("thing(0, 0)", x.thing(0, 0), y);
                Due.due("thing(0, 1)", x.thing(0, 1), p);
            }
        }
    }

    // ---- promise 8: pull

    static void promise08_yIs0To9() {
        WhistleBack x = Due.walkOf("D00T09T98");
        Due.due("pull(0)", x.pull(0), 9);
        Due.due("pull(9)", x.pull(9), 8);
        for (int y : Due.outside(0, 9)) {
            Due.refused("pull(" + y + ")", Due::busy, z -> z.pull(y), -2);
            Due.refused("pull(" + y + "), no things", WhistleBack::new, z -> z.pull(y), -2);
        }
    }

    static void promise08_noThingsPull0() {
        for (int y = 0; y <= 9; y++) Due.due("pull(" + y + ")", Due.walkOf("D00W90").pull(y), 0);
    }

    static void promise08_0AtLeast() {
        WhistleBack x = Due.walkOf("D00T52");
        int[] due = {0, 0, 0, 0, 1, 2, 1, 0, 0, 0};
        for (int y = 0; y <= 9; y++) Due.due("pull(" + y + ")", x.pull(y), due[y]);
    }

    static void promise08_theGreatestOfAllNotTheSum() {
        WhistleBack x = Due.walkOf("D00T33T33T62T25");
        int[] due = {3, 4, 5, 4, 3, 2, 2, 1, 0, 0};
        for (int y = 0; y <= 9; y++) Due.due("pull(" + y + ")", x.pull(y), due[y]);
        Due.due("the first of four", Due.walkOf("D00T09T08T07T06").pull(0), 9);
        Due.due("the last of four", Due.walkOf("D00T06T07T08T09").pull(0), 9);
    }

    static void promise08_hungerAndTheLeadAreNothingToIt() {
        WhistleBack x = Due.walkOf("D00T05");
        x.hunger();
        x.lead();
        Due.due("pull(0)", x.pull(0), 5);
        Due.due("pull(9)", x.pull(9), 0);
    }
}
