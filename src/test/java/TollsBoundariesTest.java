import java.util.List;
import java.util.function.Supplier;

/** The boundaries of part 2 of the document (TRAVELLERS, the TOLL of a pass) and of promises 7 to 10. */
public final class TollsBoundariesTest {
    private static final int NONE = TurnpikeTrust.NONE;
    private static final int MIN = Integer.MIN_VALUE;
    private static final int MAX = Integer.MAX_VALUE;
    private static final int MILLION = 1_000_000;

    private static final String[] KINDS = {"coach", "cart", "wagon", "horse", "cattle", "sheep", "foot"};

    private TollsBoundariesTest() {
    }

    public static void main(String[] args) throws IllegalAccessException {
        Tests.run(TollsBoundariesTest.class);
    }

    /** What a traveller of a kind of so many wheels and beasts pays by an act, ahead of any pass. */
    private static int toll(String text, int kind, int wheels, int beasts, int bits) {
        return Made.road(text, kind, wheels, beasts, bits).pass(0, 0);
    }

    private static void tollIs(String text, int beasts, long due) {
        Due.is(text + " of " + beasts, toll(text, Made.CATTLE, 4, beasts, 0), due);
    }

    private static void holds(String condition, int wheels, int beasts, boolean isTrue) {
        String text = "toll 5 if " + condition + ";";
        Due.is(text + " of " + wheels + " and " + beasts, toll(text, Made.CART, wheels, beasts, 0), isTrue ? 5 : 0);
    }

    private static void pays(Trust x, int traveller, int gate, int toll, int clause) {
        String what = "pass of " + traveller + " at " + gate;
        Due.is(what, x.pass(traveller, gate), toll);
        Due.is("clause of " + what, x.clause(), clause);
    }

    /** Two gates, a second traveller like the first one, and an act. */
    private static Trust two(String text) {
        Trust x = Made.road(text);
        x.traveller(Made.CART, 4, 1, 0);
        return x;
    }

    // Promise 7: 60 at most; KIND 0 to 6, WHEELS 0 to 20, BEASTS 0 to 10,000, bits of 1, 2, 4 and 8.

    private static void refusesTraveller(int kind, int wheels, int beasts, int bits) {
        String what = "traveller " + kind + " " + wheels + " " + beasts + " " + bits;
        Due.refusesArgument(what, Made::busy, x -> x.traveller(kind, wheels, beasts, bits));
    }

    private static void promise07KindOf0To6() {
        Due.is("least", new Trust().traveller(0, 4, 4, 0), 0);
        Due.is("greatest", new Trust().traveller(6, 4, 4, 0), 0);
        for (int kind : new int[] {-1, 7, MIN, MAX}) {
            refusesTraveller(kind, 4, 4, 0);
        }
    }

    private static void promise07WheelsOf0To20() {
        Due.is("least", new Trust().traveller(1, 0, 4, 0), 0);
        Due.is("greatest", new Trust().traveller(1, 20, 4, 0), 0);
        for (int wheels : new int[] {-1, 21, MIN, MAX}) {
            refusesTraveller(1, wheels, 4, 0);
        }
    }

    private static void promise07BeastsOf0To10000() {
        Due.is("least", new Trust().traveller(1, 4, 0, 0), 0);
        Due.is("greatest", new Trust().traveller(1, 4, 10_000, 0), 0);
        for (int beasts : new int[] {-1, 10_001, MIN, MAX}) {
            refusesTraveller(1, 4, beasts, 0);
        }
    }

    private static void promise07BitsOf0To15() {
        for (int bits = 0; bits <= 15; bits++) {
            Due.is("bits " + bits, new Trust().traveller(1, 4, 4, bits), 0);
        }
        for (int bits : new int[] {-1, 16, 17, 32, MIN, MAX}) {
            refusesTraveller(1, 4, 4, bits);
        }
    }

    private static void promise07SixtyTravellers() {
        Trust x = Made.road("toll 1 each;");
        for (int i = 1; i < 60; i++) {
            Due.is("traveller " + i, x.traveller(Made.CATTLE, 0, i, 0), i);
        }
        Due.is("travellers", x.count(4), 60);
        Due.is("the last one's toll", x.pass(59, 1), 59);
    }

    private static void promise07NoSixtyFirst() {
        Due.refusesState("a 61st", Made::full, x -> x.traveller(0, 0, 0, 0));
        Due.is("travellers", Made.full().count(4), 60);
    }

    // Promises 8 to 10: which TRAVELLERS, GATES and ACTS there are, and what is done.

    private static void promise08NoSuchTravellerOrGate() {
        for (int none : new int[] {-1, 3, MIN, MAX}) {
            Due.refusesIndex("traveller " + none, Made::busy, x -> x.pass(none, 0));
            Due.refusesIndex("gate " + none, Made::busy, x -> x.pass(0, none));
            Due.refusesIndex("both " + none, Made::busy, x -> x.pass(none, none));
        }
    }

    private static void promise08NoTravellerOrNoGateYet() {
        Supplier<Trust> gateAlone = () -> Made.farmers();
        Due.refusesIndex("no traveller", gateAlone, x -> x.pass(0, 0));
        Supplier<Trust> travellerAlone = () -> {
            Trust x = new Trust();
            x.traveller(0, 0, 0, 0);
            return x;
        };
        Due.refusesIndex("no gate", travellerAlone, x -> x.pass(0, 0));
    }

    private static void promise08TheLastTravellerAtTheLastGate() {
        Trust x = Made.full();
        x.wait(12);
        Due.is("pass", x.pass(59, 7), 0);
        Due.is("passes", x.gateTold(7, 6), 1);
        Due.is("none above", x.gateTold(6, 6), 0);
        Due.index("traveller 60", () -> x.pass(60, 7));
        Due.index("gate 8", () -> x.pass(59, 8));
    }

    private static void promise08ATollOfTheBoxIsInTheJournal() {
        Trust x = Made.road("toll 1;");
        x.pass(0, 1);
        Due.is("box", x.box(0), 1);
        Due.is("kind", x.journal(0, 1), 0);
        Due.is("who", x.journal(0, 2), 0);
    }

    private static void promise09NoneAheadOfAny() {
        Trust x = Made.road("toll 5;");
        Due.is("clause", x.clause(), NONE);
        x.asked(0, 0, 0);
        Due.is("clause behind asked", x.clause(), NONE);
        Due.index("a refused pass", () -> x.pass(1, 0));
        Due.is("clause behind a refused pass", x.clause(), NONE);
    }

    private static void promise09OfTheLatestPass() {
        Trust x = Made.road("toll 5 if gate = 0; free if back; times 2/1;");
        pays(x, 0, 0, 5, 0);
        pays(x, 0, 1, 0, NONE);
        pays(x, 0, 1, 0, 1);
        x.asked(0, 0, 0);
        Due.index("a refused pass", () -> x.pass(0, 2));
        x.wait(1);
        Due.is("clause", x.clause(), 1);
        pays(x, 0, 1, 0, NONE);
    }

    private static void promise10NoSuchActTravellerOrGate() {
        Due.is("acts of busy", Made.busy().count(1), 2);
        for (int none : new int[] {-1, 3, MIN, MAX}) {
            Due.refusesIndex("act " + none, Made::busy, x -> x.asked(none, 0, 0));
            Due.refusesIndex("traveller " + none, Made::busy, x -> x.asked(0, none, 0));
            Due.refusesIndex("gate " + none, Made::busy, x -> x.asked(0, 0, none));
        }
        Due.refusesIndex("act 2", Made::busy, x -> x.asked(2, 0, 0));
    }

    private static void promise10TheLastActTravellerAndGate() {
        Trust x = Made.full();
        Due.is("asked", x.asked(11, 59, 7), 0);
        Due.index("act 12", () -> x.asked(12, 59, 7));
        Due.index("traveller 60", () -> x.asked(11, 60, 7));
        Due.index("gate 8", () -> x.asked(11, 59, 8));
    }

    private static void promise10NoActYet() {
        Supplier<Trust> made = () -> {
            Trust x = Made.farmers();
            x.traveller(0, 0, 0, 0);
            return x;
        };
        Due.refusesIndex("act 0", made, x -> x.asked(0, 0, 0));
    }

    private static void promise10NothingIsDone() {
        for (int i = 0; i < 9; i++) {
            int traveller = i / 3;
            int gate = i % 3;
            Trust asked = Made.busy();
            asked.asked(0, traveller, gate);
            asked.asked(1, traveller, gate);
            Due.same("asked of " + traveller + " at " + gate, State.of(asked), State.of(Made.busy()));
        }
    }

    private static void promise10InForceOrNot() {
        Trust x = Made.road("toll 1;");
        x.tell("toll 2;", 5);
        x.tell("toll 3;", 9_999);
        x.wait(6);
        Due.is("no more in force", x.asked(0, 0, 0), 1);
        Due.is("in force", x.asked(1, 0, 0), 2);
        Due.is("not yet in force", x.asked(2, 0, 0), 3);
        Due.is("a pass", x.pass(0, 0), 2);
    }

    private static void promise10WhatAPassWouldPayToday() {
        Trust x = two("toll 7;");
        x.tell("once; toll 1 if day = 1; toll 2 if back; toll 3;", 9_000);
        x.tell("once all; toll 4;", 9_000);
        Due.is("ahead of a pass", x.asked(1, 0, 0), 3);
        x.pass(0, 0);
        Due.is("paid here", x.asked(1, 0, 0), 0);
        Due.is("not paid there", x.asked(1, 0, 1), 3);
        Due.is("not paid by another", x.asked(1, 1, 0), 3);
        Due.is("paid anywhere", x.asked(2, 0, 1), 0);
        x.wait(1);
        Due.is("another day", x.asked(1, 0, 0), 1);
        Due.is("not paid on it", x.asked(2, 0, 0), 4);
        x.wait(1);
        Due.is("one more day", x.asked(1, 0, 0), 3);
    }

    // Part 2: what C is told of the TRAVELLER, the GATE and the DAY.

    private static void part2EachKindIsItsOwn() {
        for (int kind = 0; kind <= 6; kind++) {
            for (int other = 0; other <= 6; other++) {
                int toll = toll("toll 5 if kind = " + KINDS[kind] + ";", other, 4, 4, 0);
                Due.is(KINDS[kind] + " of kind " + other, toll, kind == other ? 5 : 0);
            }
        }
    }

    private static void part2EachBitIsItsOwn() {
        String[] words = {"mail", "army", "church", "farm"};
        for (int bits = 0; bits <= 15; bits++) {
            for (int i = 0; i < 4; i++) {
                boolean isTold = (bits >> i & 1) == 1;
                Due.is(words[i] + " of " + bits, toll("toll 5 if " + words[i] + ";", Made.CART, 4, 4, bits), isTold ? 5 : 0);
            }
        }
    }

    private static void part2WheelsAtTheirEnds() {
        for (int wheels : new int[] {0, 1, 5, 6, 19, 20}) {
            for (int n = Math.max(0, wheels - 1); n <= wheels + 1; n++) {
                holds("wheels = " + n, wheels, 7, wheels == n);
                holds("wheels < " + n, wheels, 7, wheels < n);
                holds("wheels > " + n, wheels, 7, wheels > n);
            }
        }
    }

    private static void part2BeastsAtTheirEnds() {
        for (int beasts : new int[] {0, 1, 20, 9_999, 10_000}) {
            for (int n = Math.max(0, beasts - 1); n <= beasts + 1; n++) {
                holds("beasts = " + n, 7, beasts, beasts == n);
                holds("beasts < " + n, 7, beasts, beasts < n);
                holds("beasts > " + n, 7, beasts, beasts > n);
            }
        }
        holds("beasts < 1000000", 7, 10_000, true);
        holds("beasts > 1000000", 7, 10_000, false);
        holds("beasts = 1000000", 7, 10_000, false);
    }

    private static void part2TheGatesNumber() {
        Trust x = new Trust();
        x.stretch(1);
        x.traveller(Made.FOOT, 0, 0, 0);
        StringBuilder text = new StringBuilder();
        for (int gate = 0; gate < 8; gate++) {
            x.gate(0);
            text.append("toll ").append(gate + 1).append(" if gate = ").append(gate).append(";");
        }
        x.tell(text.toString(), 0);
        x.tell("toll 1 if gate < 1; toll 2 if gate > 6; toll 3;", 9_000);
        for (int gate = 0; gate < 8; gate++) {
            Due.is("gate " + gate, x.asked(0, 0, gate), gate + 1);
            Due.is("compared gate " + gate, x.asked(1, 0, gate), gate < 1 ? 1 : gate > 6 ? 2 : 3);
        }
    }

    private static void part2TheDayIsLeftBy365() {
        Trust x = Made.road("toll 1 if day = 0; toll 2 if day = 1; toll 3 if day > 363; toll 4 if day = 144; toll 5;");
        int[][] due = {{0, 1}, {1, 2}, {2, 5}, {363, 5}, {364, 3}, {365, 1}, {366, 2}, {729, 3}, {730, 1}, {731, 2},
            {9_489, 3}, {9_490, 1}, {9_854, 3}, {9_855, 1}, {9_998, 5}, {9_999, 4}};
        int day = 0;
        for (int[] d : due) {
            for (; day < d[0]; day = x.wait(Math.min(1_000, d[0] - day))) {
            }
            Due.is("day " + day, x.pass(0, 0), d[1]);
        }
    }

    private static void part2BackIsAheadOfThisAlone() {
        Trust x = Made.road("toll 2 if back; toll 1;");
        pays(x, 0, 0, 1, 1);
        pays(x, 0, 0, 2, 0);
        pays(x, 0, 0, 2, 0);
    }

    private static void part2BackIsOfThisGate() {
        Trust x = Made.road("toll 2 if back; toll 1;");
        pays(x, 0, 0, 1, 1);
        pays(x, 0, 1, 1, 1);
        pays(x, 0, 0, 2, 0);
        pays(x, 0, 1, 2, 0);
    }

    private static void part2BackIsOfTheTraveller() {
        Trust x = two("toll 2 if back; toll 1;");
        pays(x, 0, 0, 1, 1);
        pays(x, 1, 0, 1, 1);
        pays(x, 0, 0, 2, 0);
    }

    private static void part2BackIsOfThisDay() {
        Trust x = Made.road("toll 2 if back; toll 1;");
        pays(x, 0, 0, 1, 1);
        x.wait(0);
        pays(x, 0, 0, 2, 0);
        x.wait(1);
        pays(x, 0, 0, 1, 1);
        pays(x, 0, 0, 2, 0);
        x.wait(365);
        pays(x, 0, 0, 1, 1);
    }

    private static void part2BackBehindAFreePassToo() {
        Trust x = Made.road("toll 2 if back; free;");
        pays(x, 0, 0, 0, 1);
        pays(x, 0, 0, 2, 0);
        Trust y = Made.farmers();
        y.traveller(Made.FOOT, 0, 0, 0);
        y.pass(0, 0);
        y.tell("toll 2 if back;", 0);
        pays(y, 0, 0, 2, 0);
    }

    private static void part2BackAtTheLastOfAll() {
        Trust x = Made.road("toll 2 if back; toll 1;");
        for (int i = 1; i < 60; i++) {
            x.traveller(Made.FOOT, 0, 0, 0);
        }
        for (int i = 2; i < 8; i++) {
            x.gate(0);
        }
        pays(x, 59, 7, 1, 1);
        pays(x, 59, 7, 2, 0);
        pays(x, 59, 6, 1, 1);
        pays(x, 58, 7, 1, 1);
    }

    private static void part2TheDeepestCondition() {
        String text = "farm";
        for (int i = 0; i < 10; i++) {
            text = "(army or mail and " + text + ")";
        }
        Due.is("false at its depth", toll("toll 5 if " + text + ";", Made.CART, 4, 1, 1), 0);
        Due.is("true at its depth", toll("toll 5 if " + text + ";", Made.CART, 4, 1, 1 + 8), 5);
        Due.is("true at its top", toll("toll 5 if " + text + ";", Made.CART, 4, 1, 2), 5);
        String nots = "not not not not not not not not not not ";
        Due.is("ten times not", toll("toll 5 if " + nots + "mail;", Made.CART, 4, 1, 1), 5);
        Due.is("ten times not of none", toll("toll 5 if " + nots + "mail;", Made.CART, 4, 1, 0), 0);
    }

    private static void part2AndBindsAheadOfOr() {
        for (int bits = 0; bits <= 7; bits++) {
            boolean mail = (bits & 1) > 0;
            boolean army = (bits & 2) > 0;
            boolean church = (bits & 4) > 0;
            int both = toll("toll 5 if mail or army and church;", Made.CART, 4, 1, bits);
            Due.is("or, and of " + bits, both, mail || army && church ? 5 : 0);
            int turned = toll("toll 5 if mail and army or church;", Made.CART, 4, 1, bits);
            Due.is("and, or of " + bits, turned, mail && army || church ? 5 : 0);
            int bound = toll("toll 5 if (mail or army) and church;", Made.CART, 4, 1, bits);
            Due.is("brackets of " + bits, bound, (mail || army) && church ? 5 : 0);
            int not = toll("toll 5 if not mail or army;", Made.CART, 4, 1, bits);
            Due.is("not, or of " + bits, not, !mail || army ? 5 : 0);
            int notAnd = toll("toll 5 if not mail and army;", Made.CART, 4, 1, bits);
            Due.is("not, and of " + bits, notAnd, !mail && army ? 5 : 0);
            int notBoth = toll("toll 5 if not (mail or army);", Made.CART, 4, 1, bits);
            Due.is("not of brackets of " + bits, notBoth, mail || army ? 0 : 5);
        }
    }

    // Part 2: N, each and score.

    private static void part2TollOf0AndOfAMillion() {
        Trust none = Made.road("toll 0;");
        pays(none, 0, 0, 0, 0);
        Trust most = Made.road("toll 1000000;");
        pays(most, 0, 0, MILLION, 0);
    }

    private static void part2EachOfNoBeastsAndOfTheMost() {
        tollIs("toll 3;", 0, 3);
        tollIs("toll 3 each;", 0, 0);
        tollIs("toll 3 each;", 1, 3);
        tollIs("toll 3 each;", 10_000, 30_000);
    }

    private static void part2ScoreIsRoundedUp() {
        int[][] scores = {{0, 0}, {1, 1}, {19, 1}, {20, 1}, {21, 2}, {39, 2}, {40, 2}, {41, 3}, {9_980, 499}, {9_981, 500},
            {10_000, 500}};
        for (int[] one : scores) {
            tollIs("toll 7 score;", one[0], 7 * one[1]);
        }
    }

    private static void part2AMillionAtMostWithoutTimes() {
        tollIs("toll 37037 each;", 27, 999_999);
        tollIs("toll 100 each;", 10_000, MILLION);
        tollIs("toll 9901 each;", 101, MILLION);
        tollIs("toll 9901 score;", 2_020, MILLION);
        tollIs("toll 1000000 each;", 10_000, MILLION);
        tollIs("toll 1000000 each;", 4_295, MILLION);
        tollIs("toll 1000000 score;", 10_000, MILLION);
    }

    private static void part2AMillionAtMostAheadOfTheFirstTimes() {
        tollIs("times 1/10; toll 9901 each;", 101, 100_000);
        tollIs("times 1/10000; toll 1000000 each;", 10_000, 100);
        tollIs("times 1/2; toll 1000000 score;", 10_000, 500_000);
    }

    private static void part2AMillionAtMostOfEachTimes() {
        tollIs("times 9901/1; toll 101;", 1, MILLION);
        tollIs("times 37037/1; toll 27;", 1, 999_999);
        tollIs("times 1000000/1; times 1/1000; toll 1000;", 1, 1_000);
        tollIs("times 1000000/1; times 1000000/1; toll 1000000;", 1, MILLION);
        tollIs("times 9901/1; times 1/10; toll 101;", 1, 100_000);
        tollIs("times 1/1000000; toll 1000000;", 1, 1);
    }

    // Part 2: times.

    private static void part2TimesAreCutEach() {
        tollIs("times 1/2; toll 1;", 1, 0);
        tollIs("times 1/2; toll 3;", 1, 1);
        tollIs("times 2/3; toll 4;", 1, 2);
        tollIs("times 1/2; times 2/1; toll 3;", 1, 2);
        tollIs("times 1/3; times 1/3; times 9/1; toll 10;", 1, 9);
    }

    private static void part2TimesAreInOrder() {
        tollIs("times 3/1; times 1/2; toll 5;", 1, 7);
        tollIs("times 1/2; times 3/1; toll 5;", 1, 6);
    }

    private static void part2TimesAlikeAreAllKept() {
        tollIs("times 3/1; times 3/1; toll 5;", 1, 45);
    }

    private static void part2TimesOf39AreKept() {
        tollIs("times 5/1;" + "times 1/1;".repeat(37) + "times 7/1;" + "toll 1;", 1, 35);
    }

    private static void part2TimesThatDontHoldAreNotKept() {
        tollIs("times 3/1 if mail; times 2/1 if not mail; toll 5;", 1, 10);
    }

    private static void part2TimesBehindTheTollAreNotKept() {
        tollIs("toll 5; times 2/1;", 1, 5);
        tollIs("toll 5 if mail; times 2/1; toll 6; times 3/1;", 1, 12);
    }

    private static void part2TimesOf0() {
        Trust x = Made.road("times 0/1; toll 5;");
        pays(x, 0, 0, 0, 1);
        Due.is("no line of 0", x.count(7), 0);
    }

    private static void part2TimesAreNotKeptForAnotherPass() {
        Trust x = Made.road("times 2/1 if not back; toll 5;");
        pays(x, 0, 0, 10, 1);
        pays(x, 0, 0, 5, 1);
        Trust y = Made.road("times 2/1;");
        y.tell("toll 5;", 1);
        pays(y, 0, 0, 0, NONE);
        y.wait(1);
        pays(y, 0, 0, 5, 0);
    }

    // Part 2: free, the first toll, and none.

    private static void part2FreeEndsAll() {
        Trust x = Made.road("times 2/1; free; toll 5; free;");
        pays(x, 0, 0, 0, 1);
        pays(x, 0, 0, 0, 1);
    }

    private static void part2FreeThatDoesntHoldEndsNothing() {
        Trust x = Made.road("free if mail; toll 5;");
        pays(x, 0, 0, 5, 1);
    }

    private static void part2FreeBehindTheTollIsNotReached() {
        Trust x = Made.road("toll 5; free;");
        pays(x, 0, 0, 5, 0);
    }

    private static void part2OfTwoTollsTheFirstThatHolds() {
        Trust x = Made.road("toll 4 if mail; toll 5; toll 6;");
        pays(x, 0, 0, 5, 1);
    }

    private static void part2OfTwoFreesTheFirstThatHolds() {
        Trust x = Made.road("free if mail; free; free;");
        pays(x, 0, 0, 0, 1);
    }

    private static void part2NoneHolds() {
        for (String text : List.of("", "toll 5 if mail;", "times 2/1;", "once;", "once all;", "free if mail;")) {
            Trust x = Made.road(text);
            pays(x, 0, 0, 0, NONE);
            pays(x, 0, 0, 0, NONE);
            Due.is("no line", x.count(7), 0);
        }
    }

    private static void part2WithoutAnAct() {
        Trust x = Made.farmers();
        x.traveller(Made.HORSE, 0, 1, 0);
        pays(x, 0, 0, 0, NONE);
        x.tell("toll 5;", 1);
        pays(x, 0, 0, 0, NONE);
        Due.is("it wears all the same", x.wear(0), 2);
        Due.is("it passes all the same", x.gateTold(0, 6), 2);
        x.wait(1);
        pays(x, 0, 0, 5, 0);
    }

    // Part 2: once.

    private static void part2OnceIsOfThisGate() {
        Trust x = Made.road("once; toll 5;");
        pays(x, 0, 0, 5, 1);
        pays(x, 0, 0, 0, 0);
        pays(x, 0, 1, 5, 1);
        pays(x, 0, 1, 0, 0);
        pays(x, 0, 0, 0, 0);
    }

    private static void part2OnceAllIsOfAnyGate() {
        Trust x = Made.road("once all; toll 5;");
        pays(x, 0, 1, 5, 1);
        pays(x, 0, 0, 0, 0);
        pays(x, 0, 1, 0, 0);
    }

    private static void part2OnceIsOfThisDay() {
        for (String text : List.of("once; toll 5;", "once all; toll 5;")) {
            Trust x = Made.road(text);
            pays(x, 0, 0, 5, 1);
            pays(x, 0, 0, 0, 0);
            x.wait(1);
            pays(x, 0, 0, 5, 1);
            pays(x, 0, 0, 0, 0);
            x.wait(365);
            pays(x, 0, 0, 5, 1);
        }
    }

    private static void part2OnceIsOfTheTraveller() {
        for (String text : List.of("once; toll 5;", "once all; toll 5;")) {
            Trust x = two(text);
            pays(x, 0, 0, 5, 1);
            pays(x, 1, 0, 5, 1);
            pays(x, 0, 0, 0, 0);
        }
    }

    private static void part2OncePaidAbove0() {
        Trust x = Made.road("toll 0 if not back; once; once all; toll 5;");
        pays(x, 0, 0, 0, 0);
        pays(x, 0, 0, 5, 3);
        pays(x, 0, 0, 0, 1);
        Trust y = Made.road("free if not back; once all; toll 1;");
        pays(y, 0, 0, 0, 0);
        pays(y, 0, 0, 1, 2);
        pays(y, 0, 0, 0, 1);
    }

    private static void part2OnceStaysBehindAPassOf0() {
        Trust x = Made.road("once; once all if gate = 1; toll 5;");
        pays(x, 0, 0, 5, 2);
        pays(x, 0, 0, 0, 0);
        pays(x, 0, 0, 0, 0);
        pays(x, 0, 1, 0, 1);
        pays(x, 0, 1, 0, 1);
    }

    private static void part2OfOncesAlikeTheFirst() {
        Trust x = Made.road("once; once; toll 5;");
        pays(x, 0, 0, 5, 2);
        pays(x, 0, 0, 0, 0);
        Trust y = Made.road("once all; once all; toll 5;");
        pays(y, 0, 0, 5, 2);
        pays(y, 0, 1, 0, 0);
        Trust z = Made.road("times 1/1; once all; once; once all; once; toll 5;");
        pays(z, 0, 0, 5, 5);
        pays(z, 0, 1, 0, 1);
        pays(z, 0, 0, 0, 1);
    }

    private static void part2OnceThatDoesntHoldIsNotKept() {
        Trust x = Made.road("once if mail; once; toll 5;");
        pays(x, 0, 0, 5, 2);
        pays(x, 0, 0, 0, 1);
        Trust y = Made.road("once all if mail; toll 5;");
        pays(y, 0, 0, 5, 1);
        pays(y, 0, 0, 5, 1);
    }

    private static void part2OnceBehindTheTollIsNotKept() {
        Trust x = Made.road("toll 5; once; once all;");
        pays(x, 0, 0, 5, 0);
        pays(x, 0, 0, 5, 0);
    }

    private static void part2OfBothOncesTheLowerOne() {
        Trust x = Made.road("once; once all; toll 5;");
        pays(x, 0, 0, 5, 2);
        pays(x, 0, 0, 0, 0);
        Trust y = Made.road("once all; once; toll 5;");
        pays(y, 0, 0, 5, 2);
        pays(y, 0, 0, 0, 0);
    }

    private static void part2OfBothOncesTheOneThatDoes() {
        Trust x = Made.road("once; once all; toll 5;");
        pays(x, 0, 0, 5, 2);
        pays(x, 0, 1, 0, 1);
        pays(x, 0, 0, 0, 0);
    }

    private static void part2OnceIsByItsClauseThoughTheTollIs0() {
        Trust x = Made.road("once; toll 5 if not back; toll 0;");
        pays(x, 0, 0, 5, 1);
        pays(x, 0, 0, 0, 0);
        Trust y = Made.road("once all; toll 5 if not back; toll 0;");
        pays(y, 0, 0, 5, 1);
        pays(y, 0, 0, 0, 0);
    }

    private static void part2FreeGoesAheadOfOnce() {
        Trust x = Made.road("once; free if back; toll 5;");
        pays(x, 0, 0, 5, 2);
        pays(x, 0, 0, 0, 1);
    }

    private static void part2OnceOfATollByAnotherAct() {
        Trust x = Made.road("toll 5;");
        pays(x, 0, 0, 5, 0);
        x.tell("once; toll 6;", 0);
        pays(x, 0, 0, 0, 0);
        pays(x, 0, 1, 6, 1);
    }

    private static void part2OnceOfATollToAFarmer() {
        Trust x = Made.road("once all; toll 5;");
        x.farmer(100);
        x.bid(0, 0, 1, 1);
        x.let(0, 1);
        pays(x, 0, 0, 5, 1);
        pays(x, 0, 1, 0, 0);
        Due.is("money", x.money(0), 103);
    }

    private static void part2OnceIsNotKeptForAnotherPass() {
        Trust x = Made.road("once if not back; toll 5;");
        pays(x, 0, 0, 5, 1);
        pays(x, 0, 0, 5, 1);
        Trust y = Made.road("once; once all if gate = 0; toll 5;");
        pays(y, 0, 0, 5, 2);
        pays(y, 0, 0, 0, 0);
        pays(y, 0, 1, 5, 2);
    }
}
