import java.util.function.Supplier;

/** The edges of promises 15 to 19: COMES, BEST, FEWEST, GOOD, JUDGED. */
final class EdgesWordsTest {
    public static void main(String[] args) throws IllegalAccessException {
        Due.runTests(EdgesWordsTest.class);
    }

    // ---- promise 15: comes

    static void promise15_thereIsNoSuchWord() {
        for (int word : Due.outside(0, 3)) {
            Due.refused("comes(" + word + ", 0)", Due::busy, x -> x.comes(word, 0), -1);
            Due.refused("comes(" + word + ", 9)", Due::busy, x -> x.comes(word, 9), -1);
        }
        Due.refused("comes(0, 0), no words", WhistleBack::new, x -> x.comes(0, 0), -1);
        Due.refused("comes(1, 0), one word", () -> Due.walkOf("D00W50"), x -> x.comes(1, 0), -1);
    }

    static void promise15_yIs0To9() {
        WhistleBack x = Due.walkOf("D00W50W50W50W50");
        Due.due("comes(0, 0)", x.comes(0, 0), 1);
        Due.due("comes(3, 9)", x.comes(3, 9), 1);
        for (int y : Due.outside(0, 9)) {
            Due.refused("comes(0, " + y + ")", Due::busy, z -> z.comes(0, y), -2);
            Due.refused("comes(3, " + y + ")", Due::busy, z -> z.comes(3, y), -2);
        }
    }

    static void promise15_unknownComesAheadOfOutside() {
        for (int word : Due.outside(0, 3)) {
            for (int y : Due.outside(0, 9)) Due.due("comes(" + word + ", " + y + ")", Due.busy().comes(word, y), -1);
        }
    }

    static void promise15_powerAsMuchAsThePullAnd1AtLeast() {
        for (int strength = 0; strength <= 9; strength++) {
            WhistleBack lone = Due.walkOf("D00W" + strength + "0");
            Due.due("comes(0, 0), no pull", lone.comes(0, 0), strength >= 1 ? 1 : 0);
            for (int p = 1; p <= 9; p++) {
                WhistleBack x = Due.walkOf("D05W" + strength + "0T0" + p);
                Due.due("comes(0, 0) by " + strength + " against " + p, x.comes(0, 0), strength >= p ? 1 : 0);
            }
        }
    }

    static void promise15_halvesAndQuartersAreCut() {
        for (int y = 0; y <= 9; y++) {
            for (int strength = 0; strength <= 9; strength++) {
                WhistleBack x = Due.walkOf("D00W" + strength + "0W" + strength + "1W" + strength + "2W" + strength + "3");
                int half = strength > y / 2 ? 1 : 0;
                int quarter = strength > y / 4 ? 1 : 0;
                Due.due("comes(0, " + y + ")", x.comes(0, y), half);
                Due.due("comes(1, " + y + "), a whistle", x.comes(1, y), quarter);
                Due.due("comes(2, " + y + "), a name", x.comes(2, y), half);
                Due.due("comes(3, " + y + "), home", x.comes(3, y), half);
            }
        }
    }

    static void promise15_fromThereNotFromWhereHeIs() {
        WhistleBack x = Due.walkOf("D09W10");
        Due.due("comes(0, 0)", x.comes(0, 0), 1);
        Due.due("comes(0, 9)", x.comes(0, 9), 0);
    }

    static void promise15_theLeadIsSetAsideAndNothingChanges() {
        WhistleBack x = Due.leashed();
        Due.due("comes(0, 0)", x.comes(0, 0), 1);
        Due.due("comes(2, 9)", x.comes(2, 9), 1);
        Due.due("comes(2, 2), hungry, 4 against 3", x.comes(2, 2), 1);
        Due.same("after comes", Due.undone(x), Due.undone(Due.leashed()));
    }

    // ---- promise 16: best

    static void promise16_yIs0To9() {
        WhistleBack x = Due.walkOf("D00W50");
        Due.due("best(0)", x.best(0), 0);
        Due.due("best(9)", x.best(9), 0);
        for (int y : Due.outside(0, 9)) {
            Due.refused("best(" + y + ")", Due::busy, z -> z.best(y), -2);
            Due.refused("best(" + y + "), no words", WhistleBack::new, z -> z.best(y), -2);
        }
    }

    static void promise16_noneWithoutWords() {
        for (int y = 0; y <= 9; y++) Due.due("best(" + y + ")", new WhistleBack().best(y), -9);
    }

    static void promise16_noneOfTheWordsOfAnEarlierWalk() {
        WhistleBack x = Due.walkOf("D00W00W90W91W92");
        for (int words = 3; words >= 0; words--) {
            Due.tell(x, "D00" + "W00".repeat(words));
            x.walk();
            for (int y = 0; y <= 9; y++) Due.due("best(" + y + ") of " + words + " words", x.best(y), -9);
        }
    }

    static void promise16_noneIfHeComesByNone() {
        Due.due("no strength", Due.walkOf("D00W00W01W02W03").best(0), -9);
        Due.due("all too weak there", Due.walkOf("D00W80W81W82W83T09").best(0), -9);
        Due.due("power 0", Due.walkOf("D00W40").best(9), -9);
        Due.due("power 1", Due.walkOf("D00W50").best(9), 0);
    }

    static void promise16_ofLikeOnesTheLeast() {
        Due.due("four alike", Due.walkOf("D00W50W50W50W50").best(0), 0);
        Due.due("the last three", Due.walkOf("D00W40W50W50W50").best(0), 1);
        Due.due("the last two", Due.walkOf("D00W40W40W50W52").best(0), 2);
        Due.due("alike where the whistle has caught up", Due.walkOf("D00W60W51").best(2), 0);
        Due.due("ahead where it has", Due.walkOf("D00W60W51").best(6), 1);
    }

    static void promise16_theGreatestWhereverItIsTold() {
        Due.due("first", Due.walkOf("D00W90W80W80W80").best(0), 0);
        Due.due("last", Due.walkOf("D00W80W80W80W90").best(0), 3);
        Due.due("last, all others come too", Due.walkOf("D00W60W70W80W90T05").best(0), 3);
    }

    static void promise16_theLeadIsSetAsideAndNothingChanges() {
        WhistleBack x = Due.leashed();
        Due.due("best(0)", x.best(0), 1);
        Due.same("after best", Due.undone(x), Due.undone(Due.leashed()));
    }

    // ---- promise 17: fewest

    private static void fewestOf(String name, Supplier<WhistleBack> made, int many, int row) {
        WhistleBack x = made.get();
        Due.due(name + ": fewest(false)", x.fewest(false), many);
        Due.due(name + ": fewest(true)", x.fewest(true), row);
        Due.same(name + ": after fewest", Due.all(x), Due.all(made.get()));
        Due.same(name + ": after fewest", Due.undone(x), Due.undone(made.get()));
    }

    private static Supplier<WhistleBack> hungry(String text) {
        return () -> {
            WhistleBack x = Due.walkOf(text);
            x.hunger();
            return x;
        };
    }

    static void promise17_noneWithoutWords() {
        fewestOf("new", WhistleBack::new, -9, -9);
        fewestOf("things alone", () -> Due.walkOf("D00T09"), -9, -9);
        fewestOf("hungry", hungry("D00"), -9, -9);
        fewestOf("words of an earlier walk", () -> {
            WhistleBack x = Due.walkOf("D00W90W90W90W90");
            Due.tell(x, "D00");
            x.walk();
            x.hunger();
            return x;
        }, -9, -9);
    }

    static void promise17_noneOnTheLead() {
        fewestOf("on the lead", Due::leashed, -9, -9);
        WhistleBack x = Due.leashed();
        x.lead();
        Due.due("fewest(false), off it", x.fewest(false), 1);
    }

    static void promise17_oneCallIsTheLeast() {
        fewestOf("the first", () -> Due.walkOf("D00W50W90W90W90"), 1, 1);
        fewestOf("the last", () -> Due.walkOf("D00W00W00W00W10"), 1, 4);
        fewestOf("the first of two that come", () -> Due.walkOf("D00W00W10W90W00"), 1, 2);
    }

    static void promise17_fourCallsAreTheMost() {
        fewestOf("two", () -> Due.walkOf("D00W00W80T09"), 2, 12);
        fewestOf("three", () -> Due.walkOf("D01W00W70T09"), 3, 112);
        fewestOf("four", () -> Due.walkOf("D03W00W61T29"), 4, 1112);
        fewestOf("five would be needed", () -> Due.walkOf("D02W00W61T29"), -9, -9);
    }

    /** A WORD of no STRENGTH loses none by a call in vain, and the hungry hears it. */
    static void promise17_oneWordFourTimes() {
        fewestOf("once", hungry("D00W01T01"), 1, 1);
        fewestOf("twice", hungry("D00W01T02"), 2, 11);
        fewestOf("three times", hungry("D00W01T03"), 3, 111);
        fewestOf("four times", hungry("D00W01T04"), 4, 1111);
        fewestOf("from 4 yards not any more", hungry("D00W01T05"), -9, -9);
        fewestOf("one strength, lost by the first call", hungry("D00W11T03"), 3, 111);
    }

    static void promise17_theLeastRowAsANumber() {
        fewestOf("the first in vain, the second comes", () -> Due.walkOf("D00W01W61W01T09"), 4, 1112);
        fewestOf("the first comes", () -> Due.walkOf("D00W61W01W01T09"), 4, 2221);
        fewestOf("the third comes", () -> Due.walkOf("D00W01W01W61W61T09"), 4, 1113);
        fewestOf("the fourth comes", () -> Due.walkOf("D00W01W01W01W80T09"), 2, 14);
    }

    static void promise17_noneWhereNoCallHelps() {
        fewestOf("no strength", () -> Due.walkOf("D09W00W00W00W00"), -9, -9);
        fewestOf("9 yards at most, the hare is there", () -> Due.walkOf("D09W90W00T99"), -9, -9);
    }

    // ---- promise 18: good

    static void promise18_thereIsNoSuchWord() {
        for (int word : Due.outside(0, 3)) {
            Due.refused("good(" + word + ", 0)", Due::busy, x -> x.good(word, 0), -1);
        }
        Due.refused("good(0, 0), no words", WhistleBack::new, x -> x.good(0, 0), -1);
        Due.refused("good(1, 0), one word", () -> Due.walkOf("D00W50"), x -> x.good(1, 0), -1);
    }

    static void promise18_yIs0To9() {
        WhistleBack x = Due.walkOf("D00W00W00W00W00");
        Due.due("good(0, 0)", x.good(0, 0), 1);
        Due.due("good(3, 9)", x.good(3, 9), 5);
        for (int y : Due.outside(0, 9)) {
            Due.refused("good(0, " + y + ")", Due::busy, z -> z.good(0, y), -2);
        }
    }

    static void promise18_unknownComesAheadOfOutside() {
        for (int word : Due.outside(0, 3)) {
            for (int y : Due.outside(0, 9)) Due.due("good(" + word + ", " + y + ")", Due.busy().good(word, y), -1);
        }
    }

    static void promise18_from0CheeseTo9() {
        for (int strength = 0; strength <= 9; strength++) {
            for (int p = 1; p <= 9; p++) {
                WhistleBack x = Due.walkOf("D00W" + strength + "0T0" + p);
                Due.due("good(0, 0) by " + strength + " against " + p, x.good(0, 0), Math.max(0, p - strength));
            }
        }
    }

    static void promise18_strengthIs9AtMostElseNone() {
        Due.due("8 against 8", Due.walkOf("D00W90T28").good(0, 2), 0);
        Due.due("8 against 9", Due.walkOf("D00W90T29").good(0, 2), -9);
        Due.due("a whistle, 9 against 9", Due.walkOf("D00W01T29").good(0, 2), 9);
        Due.due("a whistle, 8 against 9", Due.walkOf("D00W01T49").good(0, 4), -9);
        WhistleBack hungry = hungry("D00W00T29").get();
        Due.due("hungry, 9 against 9", hungry.good(0, 2), 9);
        Due.due("hungry, 10 against 7", hungry.good(0, 0), 6);
        Due.due("hungry, 8 against 7", hungry.good(0, 4), 8);
        Due.due("hungry, 2 against 2", hungry.good(0, 9), 5);
        WhistleBack far = hungry("D00W00T49").get();
        Due.due("hungry, 8 against 9", far.good(0, 4), -9);
    }

    static void promise18_withoutPullPower1AtLeast() {
        for (int y = 0; y <= 9; y++) {
            WhistleBack x = Due.walkOf("D00W00W01");
            Due.due("good(0, " + y + ")", x.good(0, y), 1 + y / 2);
            Due.due("good(1, " + y + ")", x.good(1, y), 1 + y / 4);
        }
    }

    static void promise18_moreCheeseThanThereIs() {
        Due.due("good(0, 0), no cheese", Due.walkOf("D00W30T07").good(0, 0), 4);
        Due.due("good(0, 0), one cheese", Due.walkOf("D10W30T07").good(0, 0), 4);
    }

    static void promise18_theLeadIsSetAsideAndNothingChanges() {
        WhistleBack x = Due.leashed();
        Due.due("good(0, 0)", x.good(0, 0), 0);
        Due.due("good(2, 3)", x.good(2, 3), 0);
        Due.same("after good", Due.undone(x), Due.undone(Due.leashed()));
    }

    // ---- promise 19: judge

    static void promise19_nIs1To6() {
        Due.due("judge(1, 0)", new WhistleBack().judge(1, 0), -9);
        Due.due("judge(6, 0)", new WhistleBack().judge(6, 0), -9);
        for (int n : Due.outside(1, 6)) {
            Due.refused("judge(" + n + ", 0)", Due::busy, x -> x.judge(n, 0), -2);
            Due.refused("judge(" + n + ", 0), new", WhistleBack::new, x -> x.judge(n, 0), -2);
        }
    }

    static void promise19_theRowIs0OrMoreAndNFiguresAtMost() {
        int most = 1;
        for (int n = 1; n <= 6; n++) {
            most *= 10;
            int of = n;
            Due.due("judge(" + n + ", the greatest)", Due.busy().judge(n, most - 1), 0);
            for (int row : Due.outside(0, most - 1)) {
                Due.refused("judge(" + n + ", " + row + ")", Due::busy, x -> x.judge(of, row), -2);
            }
        }
    }

    static void promise19_bothOutside() {
        for (int n : Due.outside(1, 6)) {
            for (int row : new int[] {-1, 10, 1000000, Integer.MIN_VALUE, Integer.MAX_VALUE}) {
                Due.due("judge(" + n + ", " + row + ")", new WhistleBack().judge(n, row), -2);
            }
        }
    }

    static void promise19_fewerFiguresAre0AheadOfThem() {
        WhistleBack x = Due.walkOf("D00W90");
        for (int n = 1; n <= 6; n++) {
            Due.due("judge(" + n + ", 9)", x.judge(n, 9), n - 1);
            Due.due("judge(" + n + ", 1)", x.judge(n, 1), -9);
        }
    }

    static void promise19_thePlaceOfTheFirstFrom0On() {
        WhistleBack x = Due.walkOf("D00W90");
        int unit = 1;
        for (int place = 5; place >= 0; place--) {
            Due.due("9 at " + place, x.judge(6, 9 * unit), place);
            unit *= 10;
        }
        Due.due("the first of many", x.judge(6, 999999), 0);
        Due.due("the first of two", x.judge(4, 1929), 1);
    }

    private static void judged(String what, String text, int n, int row, int want) {
        Due.due(what, Due.walkOf(text).judge(n, row), want);
    }

    static void promise19_calledByWord0To3() {
        for (int words = 0; words <= 4; words++) {
            String text = "D00" + "W90".repeat(words);
            for (int doing = 1; doing <= 4; doing++) {
                judged("call " + doing + " of " + words + " words", text, 1, doing, doing <= words ? -9 : 0);
            }
        }
        judged("in vain", "D00W00", 1, 1, 0);
        judged("the second in vain", "D00W90W00", 2, 12, 1);
        judged("from 9", "D09W50", 1, 1, -9);
        judged("from 9, in vain", "D09W40", 1, 1, 0);
    }

    static void promise19_paidWithoutCheeseOrNothingOwed() {
        judged("nothing is owed", "D90W90", 1, 5, 0);
        judged("no cheese", "D00W90", 2, 15, 1);
        judged("one cheese", "D10W90", 2, 15, -9);
        judged("one cheese, two to be paid", "D10W90", 4, 1515, 3);
        judged("two cheeses", "D20W90", 4, 1515, -9);
        judged("paid twice for one", "D20W90", 3, 155, 2);
        judged("paid for, it is strong enough", "D10W80T19", 4, 1561, -9);
        judged("not paid for, it is not", "D10W80T19", 3, 161, 2);
    }

    static void promise19_runBy1And9AtMost() {
        judged("on no lead", "D00", 6, 666666, -9);
        judged("from 8 to 9 and not farther", "D08W50", 4, 6661, -9);
        judged("from 7 to 9, in vain", "D07W40", 3, 661, 2);
        judged("from 6 to 7", "D06W40", 2, 61, -9);
        judged("nothing is owed then", "D90W90", 3, 165, 2);
        judged("on the lead", "D00W90", 2, 76, 1);
    }

    static void promise19_leadAt0YardsOrOffIt() {
        for (int y = 0; y <= 9; y++) judged("lead at " + y, "D0" + y, 1, 7, y == 0 ? -9 : 0);
        judged("on, off, on, off", "D00", 4, 7777, -9);
        judged("after a run", "D00", 2, 67, 1);
        judged("after he came", "D09W90", 2, 17, -9);
        judged("nothing is owed then", "D90W90", 3, 175, 2);
        judged("a call on it", "D00W90", 2, 71, 1);
        judged("a call off it", "D00W90", 3, 771, -9);
        judged("2 less strong", "D00W50T04", 4, 1771, 3);
        judged("home: 1 less strong", "D00W53T04", 4, 1771, -9);
    }

    static void promise19_hungryOrNotAnyMore() {
        judged("hungry", "D00W00", 2, 81, -9);
        judged("not any more", "D00W00", 3, 881, 2);
        judged("on the lead", "D00", 6, 787878, -9);
    }

    static void promise19_nothingCanAlwaysBe() {
        for (int n = 1; n <= 6; n++) {
            Due.due("judge(" + n + ", 0), new", new WhistleBack().judge(n, 0), -9);
            Due.due("judge(" + n + ", 0), on the lead", Due.leashed().judge(n, 0), -9);
        }
    }

    static void promise19_fromHowItStandsAndNothingChanges() {
        WhistleBack x = Due.busy();
        Due.due("what is owed is paid", x.judge(1, 5), -9);
        Due.due("he is hungry", x.judge(2, 80), -9);
        Due.due("lead, off, run, call", x.judge(5, 77618), -9);
        Due.due("all cheese paid", x.judge(6, 515152), -9);
        Due.due("after it", x.judge(6, 151515), -9);
        Due.same("after judge", Due.all(x), Due.all(Due.busy()));
        Due.same("after judge", Due.undone(x), Due.undone(Due.busy()));
        WhistleBack on = Due.leashed();
        Due.due("run on the lead", on.judge(1, 6), 0);
        Due.due("call on the lead", on.judge(1, 1), 0);
        Due.due("off it", on.judge(2, 76), -9);
        Due.same("after judge", Due.undone(on), Due.undone(Due.leashed()));
    }
}
