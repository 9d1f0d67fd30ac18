import java.util.function.Supplier;

/** The boundaries of part 3 of the document (STRETCHES, GATES, WEAR, MENDING) and of promises 5, 6, 13, 14 and 23. */
public final class RoadsBoundariesTest {
    private static final int MIN = Integer.MIN_VALUE;
    private static final int MAX = Integer.MAX_VALUE;

    private RoadsBoundariesTest() {
    }

    public static void main(String[] args) throws IllegalAccessException {
        Tests.run(RoadsBoundariesTest.class);
    }

    /** A road without an act and one traveller. */
    private static Trust dry(int kind, int wheels, int beasts) {
        return Made.road("", kind, wheels, beasts, 0);
    }

    private static void wears(int kind, int wheels, int beasts, long due) {
        Trust x = dry(kind, wheels, beasts);
        x.pass(0, 0);
        Due.is("wear by kind " + kind + " of " + wheels + " and " + beasts, x.wear(0), due);
        Trust wet = dry(kind, wheels, beasts);
        wet.rain(1);
        wet.pass(0, 0);
        Due.is("wear in rain by kind " + kind + " of " + wheels + " and " + beasts, wet.wear(0), 2 * due);
    }

    private static void passes(Trust x, int gate, int stretch, long wearThen) {
        x.pass(0, gate);
        Due.is("wear of " + stretch + " behind a pass at " + gate, x.wear(stretch), wearThen);
    }

    /** Each stretch's wear in order. */
    private static void worn(String what, Trust x, long... due) {
        for (int i = 0; i < due.length; i++) {
            Due.is("wear of " + i + " " + what, x.wear(i), due[i]);
        }
    }

    // Promise 5: a PRICE of 1 to 10,000; 12 at most.

    private static void promise05PriceOf1To10000() {
        Due.is("least", new Trust().stretch(1), 0);
        Due.is("greatest", new Trust().stretch(10_000), 0);
        for (int price : new int[] {0, -1, 10_001, MIN, MAX}) {
            Due.refusesArgument("price " + price, Made::busy, x -> x.stretch(price));
            Due.refusesArgument("price " + price + " of the first", Trust::new, x -> x.stretch(price));
        }
    }

    private static void promise05TheLeastAndTheGreatestPriceArePaid() {
        for (int price : new int[] {1, 10_000}) {
            Trust x = Made.roads(10_000, price, 50);
            Due.is("laid for " + price, x.mend(1), 1);
            Due.is("box", x.box(0), 10_000 - price);
        }
    }

    private static void promise05TwelveStretches() {
        Trust x = new Trust();
        for (int i = 0; i < 12; i++) {
            Due.is("stretch " + i, x.stretch(10_000 - i), i);
            Due.is("stretches", x.count(2), i + 1);
        }
        Due.is("a gate on the last", x.gate(11), 0);
        Due.is("its stretch", x.gateTold(0, 0), 11);
    }

    private static void promise05NoThirteenth() {
        Due.refusesState("a 13th", Made::full, x -> x.stretch(5));
        Trust x = Made.full();
        Due.state("a 13th", () -> x.stretch(1));
        Due.is("stretches", x.count(2), 12);
        Due.index("wear of a 13th", () -> x.wear(12));
    }

    private static void promise05ARefusedPriceIsNoStretch() {
        Trust x = new Trust();
        for (int i = 0; i < 20; i++) {
            Due.argument("price 0", () -> x.stretch(0));
        }
        for (int i = 0; i < 12; i++) {
            Due.is("stretch " + i, x.stretch(1), i);
        }
    }

    // Promise 6: on a STRETCH that there is; 8 at most.

    private static void promise06NoSuchStretch() {
        Due.is("stretches of busy", Made.busy().count(2), 2);
        for (int stretch : new int[] {-1, 2, 3, 12, MIN, MAX}) {
            Due.refusesIndex("stretch " + stretch, Made::busy, x -> x.gate(stretch));
        }
    }

    private static void promise06NoStretchYet() {
        for (int stretch : new int[] {0, -1, MIN, MAX}) {
            Due.refusesIndex("stretch " + stretch, Trust::new, x -> x.gate(stretch));
        }
    }

    private static void promise06TheFirstAndTheLastStretch() {
        Trust x = new Trust();
        for (int i = 0; i < 12; i++) {
            x.stretch(1);
        }
        Due.is("on the first", x.gate(0), 0);
        Due.is("on the last", x.gate(11), 1);
        Due.index("on a 13th", () -> x.gate(12));
        Due.is("the first", x.gateTold(0, 0), 0);
        Due.is("the last", x.gateTold(1, 0), 11);
    }

    private static void promise06EightGates() {
        Trust x = new Trust();
        x.stretch(1);
        for (int i = 0; i < 8; i++) {
            Due.is("gate " + i, x.gate(0), i);
            Due.is("gates", x.count(3), i + 1);
        }
        Due.is("passes of the last", x.gateTold(7, 6), 0);
    }

    private static void promise06NoNinth() {
        Due.refusesState("a 9th", Made::full, x -> x.gate(0));
        Due.refusesState("a 9th on the last", Made::full, x -> x.gate(11));
        Trust x = Made.full();
        Due.state("a 9th", () -> x.gate(0));
        Due.is("gates", x.count(3), 8);
        Due.index("of a 9th", () -> x.gateTold(8, 0));
    }

    private static void promise06ARefusedStretchIsNoGate() {
        Trust x = new Trust();
        x.stretch(1);
        for (int i = 0; i < 20; i++) {
            Due.index("stretch 1", () -> x.gate(1));
        }
        for (int i = 0; i < 8; i++) {
            Due.is("gate " + i, x.gate(0), i);
        }
    }

    // Promise 13: 0 to 1,000 DAYS from today on, whatever was told.

    private static void promise13DaysOf0To1000() {
        Trust x = new Trust();
        x.rain(0);
        Due.is("least", x.count(9), 0);
        x.rain(1_000);
        Due.is("greatest", x.count(9), 1_000);
        for (int days : new int[] {-1, 1_001, MIN, MAX}) {
            Due.refusesArgument("rain " + days, Made::busy, y -> y.rain(days));
            Due.refusesArgument("rain " + days + " of a new one", Trust::new, y -> y.rain(days));
        }
    }

    private static void promise13ARefusedRainLeavesTheRain() {
        Trust x = new Trust();
        x.rain(7);
        Due.argument("rain -1", () -> x.rain(-1));
        Due.argument("rain 1001", () -> x.rain(1_001));
        Due.is("rain", x.count(9), 7);
    }

    private static void promise13NoMoreBy0() {
        Trust x = dry(Made.HORSE, 0, 1);
        x.rain(5);
        passes(x, 0, 0, 2);
        x.rain(0);
        Due.is("rain", x.count(9), 0);
        passes(x, 0, 0, 3);
        x.wait(1);
        passes(x, 0, 0, 4);
    }

    private static void promise13By0WhileItIsDry() {
        Trust x = dry(Made.HORSE, 0, 1);
        x.wait(3);
        x.rain(0);
        Due.is("rain", x.count(9), 0);
        passes(x, 0, 0, 1);
    }

    private static void promise13OneDayIsThisOne() {
        Trust x = dry(Made.HORSE, 0, 1);
        x.wait(1);
        x.rain(1);
        Due.is("rain", x.count(9), 1);
        passes(x, 0, 0, 2);
        x.wait(1);
        Due.is("rain then", x.count(9), 0);
        passes(x, 0, 0, 3);
    }

    private static void promise13TheLastDayOfRainAndTheFirstDryOne() {
        Trust x = dry(Made.HORSE, 0, 1);
        x.rain(1_000);
        x.wait(999);
        Due.is("rain", x.count(9), 1);
        passes(x, 0, 0, 2);
        x.wait(1);
        Due.is("rain then", x.count(9), 0);
        passes(x, 0, 0, 3);
        x.wait(1);
        Due.is("rain long behind", x.count(9), 0);
        passes(x, 0, 0, 4);
    }

    private static void promise13WhateverWasTold() {
        Trust x = new Trust();
        x.rain(5);
        x.rain(9);
        Due.is("longer", x.count(9), 9);
        x.rain(2);
        Due.is("shorter", x.count(9), 2);
        x.wait(1);
        x.rain(2);
        Due.is("as many again, from today on", x.count(9), 2);
        x.wait(1);
        Due.is("one left", x.count(9), 1);
        x.rain(0);
        x.rain(3);
        Due.is("again", x.count(9), 3);
    }

    private static void promise13AheadOfTheRainOfTheSameDayIsDry() {
        Trust x = dry(Made.HORSE, 0, 1);
        passes(x, 0, 0, 1);
        x.rain(1);
        passes(x, 0, 0, 3);
    }

    private static void promise13OnTheLastDay() {
        Trust x = dry(Made.HORSE, 0, 1);
        for (int day = 0; day < 9_000; day += 1_000) {
            x.wait(1_000);
        }
        x.wait(998);
        x.rain(2);
        x.wait(1);
        Due.is("the day", x.count(0), 9_999);
        Due.is("rain", x.count(9), 1);
        passes(x, 0, 0, 2);
        x.rain(1_000);
        Due.is("rain beyond the last day", x.count(9), 1_000);
        passes(x, 0, 0, 4);
        x.rain(0);
        passes(x, 0, 0, 5);
    }

    private static void promise13NoDayGoesByWithAWaitOf0() {
        Trust x = new Trust();
        x.rain(1);
        x.wait(0);
        Due.is("rain", x.count(9), 1);
    }

    // Promise 23 and WEAR of part 3.

    private static void promise23NoSuchStretch() {
        for (int stretch : new int[] {-1, 2, 12, MIN, MAX}) {
            Due.refusesIndex("stretch " + stretch, Made::busy, x -> x.wear(stretch));
        }
        for (int stretch : new int[] {0, -1, MIN, MAX}) {
            Due.refusesIndex("stretch " + stretch + " of none", Trust::new, x -> x.wear(stretch));
        }
    }

    private static void promise23TheLastStretch() {
        Trust x = Made.full();
        x.rain(1);
        x.pass(59, 0);
        // Traveller 59 is a horse (59 by 7 leaves 3), and gate 0 is on stretch 11.
        Due.is("wear", x.wear(11), 2);
        Due.is("wear of the one ahead", x.wear(10), 0);
        Due.index("stretch 12", () -> x.wear(12));
    }

    private static void part3WearIs0AtFirst() {
        Trust x = new Trust();
        x.stretch(10_000);
        Due.is("wear", x.wear(0), 0);
        x.gate(0);
        x.wait(1_000);
        Due.is("wear behind days without a pass", x.wear(0), 0);
    }

    private static void part3WheelsBelow6WearTwice() {
        int[][] kinds = {{Made.COACH, 6}, {Made.CART, 4}, {Made.WAGON, 10}};
        for (int[] one : kinds) {
            for (int wheels : new int[] {0, 1, 4, 5}) {
                wears(one[0], wheels, 7, 2 * one[1]);
            }
            for (int wheels : new int[] {6, 7, 19, 20}) {
                wears(one[0], wheels, 7, one[1]);
            }
        }
    }

    private static void part3WheelsOfOtherKindsDontMatter() {
        for (int wheels : new int[] {0, 5, 6, 20}) {
            wears(Made.HORSE, wheels, 40, 1);
            wears(Made.CATTLE, wheels, 40, 40);
            wears(Made.SHEEP, wheels, 40, 10);
            wears(Made.FOOT, wheels, 40, 0);
        }
    }

    private static void part3BeastsOfOtherKindsDontMatter() {
        for (int beasts : new int[] {0, 1, 10_000}) {
            wears(Made.COACH, 6, beasts, 6);
            wears(Made.CART, 6, beasts, 4);
            wears(Made.WAGON, 6, beasts, 10);
            wears(Made.HORSE, 6, beasts, 1);
            wears(Made.FOOT, 6, beasts, 0);
        }
    }

    private static void part3CattleWearByTheirBeasts() {
        for (int beasts : new int[] {0, 1, 2, 9_999, 10_000}) {
            wears(Made.CATTLE, 0, beasts, beasts);
        }
    }

    private static void part3SheepWearBy4Cut() {
        int[][] sheep = {{0, 0}, {1, 0}, {3, 0}, {4, 1}, {5, 1}, {7, 1}, {8, 2}, {9_999, 2_499}, {10_000, 2_500}};
        for (int[] one : sheep) {
            // In rain it is twice what has been cut.
            wears(Made.SHEEP, 0, one[0], one[1]);
        }
    }

    private static void part3WearIsOfTheGatesStretchAlone() {
        Trust x = dry(Made.CART, 6, 1);
        x.stretch(10);
        x.gate(1);
        passes(x, 0, 0, 4);
        worn("behind gate 0", x, 4, 0);
        passes(x, 2, 1, 4);
        worn("behind gate 2", x, 4, 4);
    }

    private static void part3TwoGatesOfOneStretchWearItBoth() {
        Trust x = dry(Made.CART, 6, 1);
        passes(x, 0, 0, 4);
        passes(x, 1, 0, 8);
    }

    private static void part3EachPassWearsWhateverItPays() {
        Trust x = Made.road("free if gate = 0; once; toll 5 if not day = 1;", Made.HORSE, 0, 1, 0);
        passes(x, 0, 0, 1);
        passes(x, 1, 0, 2);
        passes(x, 1, 0, 3);
        x.wait(1);
        passes(x, 1, 0, 4);
        x.farmer(100);
        x.bid(0, 0, 1, 1);
        x.let(0, 1);
        passes(x, 0, 0, 5);
    }

    private static void part3TheGreatestWear() {
        Trust x = dry(Made.CATTLE, 0, 10_000);
        x.rain(1_000);
        for (int i = 1; i <= 450; i++) {
            x.pass(0, i % 2);
        }
        Due.is("wear", x.wear(0), 450 * 20_000);
    }

    // Promise 14 and MENDING of part 3.

    private static void promise14LoadsOf0To20() {
        Trust x = Made.roads(1_000, 1, 5_000);
        Due.is("none", x.mend(0), 0);
        Due.is("most", x.mend(20), 20);
        for (int loads : new int[] {-1, 21, MIN, MAX}) {
            Due.refusesArgument("mend " + loads, Made::busy, y -> y.mend(loads));
            Due.refusesArgument("mend " + loads + " of nothing", Trust::new, y -> y.mend(loads));
        }
    }

    private static void promise14NoLoadsDoNothing() {
        Due.leavesAll("mend 0", Made::busy, "0", x -> x.mend(0));
    }

    private static void promise14NoStretchYet() {
        Supplier<Trust> rich = () -> Made.roads(1_000);
        Due.leavesAll("mend of a new one", Trust::new, "0", x -> x.mend(20));
        Due.leavesAll("mend without a stretch", rich, "0", x -> x.mend(20));
    }

    private static void promise14NoWear() {
        Due.leavesAll("mend without wear", () -> Made.roads(1_000, 1, 0, 2, 0), "0", x -> x.mend(20));
    }

    private static void promise14AnEmptyBox() {
        Due.leavesAll("mend of an empty box", () -> Made.roads(0, 1, 100), "0", x -> x.mend(20));
    }

    private static void promise14HowManyWereLaid() {
        Due.is("as many as told", Made.roads(100, 1, 500).mend(7), 7);
        Due.is("as many as there is wear", Made.roads(100, 1, 151).mend(7), 4);
        Due.is("as many as there is money", Made.roads(5, 2, 500).mend(7), 2);
        Due.is("just as many", Made.roads(7, 1, 350).mend(7), 7);
    }

    private static void part3ALoadTakes50OrWhatThereIs() {
        int[][] wears = {{1, 0}, {49, 0}, {50, 0}, {51, 1}, {99, 49}, {100, 50}, {10_000, 9_950}};
        for (int[] one : wears) {
            Trust x = Made.roads(100, 3, one[0]);
            Due.is("laid on " + one[0], x.mend(1), 1);
            Due.is("wear of " + one[0], x.wear(0), one[1]);
            Due.is("box", x.box(0), 97);
        }
    }

    private static void part3MendingEndsWhereThereIsNoWear() {
        Trust x = Made.roads(100, 3, 51);
        Due.is("laid", x.mend(20), 2);
        Due.is("box", x.box(0), 94);
        Due.is("laid then", x.mend(20), 0);
        Due.is("box then", x.box(0), 94);
    }

    private static void part3TheBoxHasJustThePrice() {
        Trust x = Made.roads(10, 10, 50);
        Due.is("laid", x.mend(1), 1);
        Due.is("box", x.box(0), 0);
        Due.is("wear", x.wear(0), 0);
    }

    private static void part3TheBoxHasOneLess() {
        Due.leavesAll("mend", () -> Made.roads(9, 10, 50), "0", x -> x.mend(20));
    }

    private static void part3TheBoxEndsInTheMidst() {
        Trust x = Made.roads(29, 10, 500);
        Due.is("laid", x.mend(20), 2);
        Due.is("box", x.box(0), 9);
        worn("behind two", x, 400);
        Trust y = Made.roads(30, 10, 500);
        Due.is("laid", y.mend(20), 3);
        Due.is("box", y.box(0), 0);
    }

    private static void part3ItEndsThoughACheaperOneIsLeft() {
        Trust x = Made.roads(9, 10, 50, 1, 1);
        Due.is("laid", x.mend(20), 0);
        worn("behind none", x, 50, 1);
        Trust y = Made.roads(29, 10, 50, 1, 1, 20, 50);
        Due.is("laid", y.mend(20), 1);
        worn("behind one", y, 0, 1, 50);
        Due.is("box", y.box(0), 19);
    }

    private static void part3WhereTheQuotientIsGreatest() {
        Trust cheap = Made.roads(100, 10, 50, 9, 50);
        cheap.mend(1);
        worn("by the lower price", cheap, 50, 0);
        Trust worse = Made.roads(100, 10, 40, 10, 41);
        worse.mend(1);
        worn("by the greater wear", worse, 40, 0);
        Trust less = Made.roads(100, 10, 49, 1, 5);
        less.mend(1);
        worn("by 5 / 1 above 49 / 10", less, 49, 0);
        Trust first = Made.roads(100, 10, 50, 1, 4);
        first.mend(1);
        worn("by 50 / 10 above 4 / 1", first, 0, 4);
    }

    private static void part3ByWhatItTakesNotByWhatThereIs() {
        Trust x = Made.roads(100, 10, 10_000, 9, 50);
        x.mend(1);
        worn("by what it takes", x, 10_000, 0);
        Trust y = Made.roads(100, 10, 50, 10, 10_000);
        y.mend(1);
        worn("alike by what it takes", y, 0, 10_000);
    }

    private static void part3TheQuotientIsNotCut() {
        Trust x = Made.roads(1_000, 40, 50, 30, 50);
        x.mend(1);
        worn("by 50 / 30 above 50 / 40", x, 50, 0);
        Trust y = Made.roads(50_000, 10_000, 49, 9_999, 49, 10_000, 50);
        y.mend(1);
        worn("by 50 / 10000 above 49 / 9999", y, 49, 49, 0);
        y.mend(1);
        worn("by 49 / 9999 above 49 / 10000", y, 49, 0, 0);
    }

    private static void part3OfAlikeOnesTheFirst() {
        Trust x = Made.roads(1_000, 10, 50, 10, 50, 10, 50);
        x.mend(1);
        worn("behind one", x, 0, 50, 50);
        x.mend(1);
        worn("behind two", x, 0, 0, 50);
        Trust y = Made.roads(1_000, 30, 45, 20, 30, 10, 15, 2, 3);
        for (int i = 0; i < 4; i++) {
            worn("of one quotient", y, i > 0 ? 0 : 45, i > 1 ? 0 : 30, i > 2 ? 0 : 15, 3);
            Due.is("laid", y.mend(1), 1);
        }
        worn("of one quotient", y, 0, 0, 0, 0);
    }

    private static void part3OfTwelveAlikeTheFirstAndTheLast() {
        Trust x = new Trust();
        for (int i = 0; i < 12; i++) {
            x.stretch(7);
        }
        x.borrow(100, 0, 0);
        x.gate(11);
        x.gate(10);
        x.traveller(Made.CATTLE, 0, 50, 0);
        x.pass(0, 0);
        x.pass(0, 1);
        Due.is("laid", x.mend(1), 1);
        worn("behind one", x, 0, 0, 0, 0, 0, 0, 0, 0, 0, 0, 0, 50);
        Due.is("laid", x.mend(20), 1);
        Due.is("the last", x.wear(11), 0);
    }

    private static void part3LoadByLoad() {
        // 50 / 10, then 50 / 11 above 10 / 10, then 10 / 10.
        Trust x = Made.roads(1_000, 10, 60, 11, 50);
        x.mend(1);
        worn("behind one", x, 10, 50);
        x.mend(1);
        worn("behind two", x, 10, 0);
        x.mend(1);
        worn("behind three", x, 0, 0);
        Trust y = Made.roads(1_000, 10, 60, 11, 50);
        Due.is("laid at once", y.mend(3), 3);
        Due.line(y, 1, 0, 6, 0, -10);
        Due.line(y, 2, 0, 6, 1, -11);
        Due.line(y, 3, 0, 6, 0, -10);
    }

    private static void part3ThePriceGoesFromTheBox() {
        Trust x = Made.roads(100, 7, 60, 9, 3);
        Due.is("laid", x.mend(20), 3);
        Due.is("box", x.box(0), 100 - 7 - 7 - 9);
        Due.is("lines", x.count(7), 4);
    }
}
