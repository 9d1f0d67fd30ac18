import java.util.function.Supplier;

/**
 * The boundaries of part 5 of the document (LOANS, interest by RANKS, the DAY moving on, the JOURNAL), of promises 12, 19
 * to 21 and 24 to 26, and of an object's use.
 */
public final class LoansBoundariesTest {
    private static final int NONE = TurnpikeTrust.NONE;
    private static final int MIN = Integer.MIN_VALUE;
    private static final int MAX = Integer.MAX_VALUE;

    private LoansBoundariesTest() {
    }

    public static void main(String[] args) throws IllegalAccessException {
        Tests.run(LoansBoundariesTest.class);
    }

    private static Trust onDay(int day) {
        Trust x = new Trust();
        waits(x, day);
        return x;
    }

    private static void waits(Trust x, int days) {
        for (int left = days; left > 0; left -= Math.min(left, 1_000)) {
            x.wait(Math.min(left, 1_000));
        }
    }

    /** A trust that borrowed once, on day 0. */
    private static Trust owing(int sum, int rate) {
        Trust x = new Trust();
        Due.is("loan", x.borrow(sum, rate, 0), 0);
        return x;
    }

    private static void isLoan(Trust x, int loan, long sum, long rate, long rank, long due) {
        Due.is("sum of loan " + loan, x.loan(loan, 0), sum);
        Due.is("rate of loan " + loan, x.loan(loan, 1), rate);
        Due.is("rank of loan " + loan, x.loan(loan, 2), rank);
        Due.is("due of loan " + loan, x.loan(loan, 3), due);
    }

    /**
     * On the last day ahead of the third year's end: loans whose yearly interest is told and of which nothing is due, as
     * what they brought has just paid two years, and one more of rate 0 that brought the box what it has.
     */
    private static Trust aheadOfParting(int box, int[] yearly, int[] ranks) {
        Trust x = new Trust();
        for (int i = 0; i < yearly.length; i++) {
            x.borrow(Math.max(2 * yearly[i], 1), 500, ranks[i]);
            if (yearly[i] == 0) {
                x.repay(i, 1);
            }
        }
        waits(x, 3 * 365 - 1);
        Due.is("box behind two years", x.box(9_999), 0);
        if (box > 0) {
            x.borrow(box, 0, 3);
        }
        return x;
    }

    /** The parting of the third year's end, with the lines of those that got some, and no others. */
    private static void parts(int box, int[] yearly, int[] ranks, long... paid) {
        Trust x = aheadOfParting(box, yearly, ranks);
        int line = x.count(7);
        x.wait(1);
        long left = box;
        for (int rank = 0; rank <= 3; rank++) {
            for (int i = 0; i < paid.length; i++) {
                if (ranks[i] == rank && paid[i] > 0) {
                    Due.line(x, line, 3 * 365, 4, i, -paid[i]);
                    line++;
                }
            }
        }
        for (int i = 0; i < paid.length; i++) {
            Due.is("due of loan " + i + " of a box of " + box, x.loan(i, 3), yearly[i] - paid[i]);
            left -= paid[i];
        }
        Due.is("lines of a box of " + box, x.count(7), line);
        Due.is("what is left of a box of " + box, x.box(3 * 365), left);
    }

    private static int[] of(int... numbers) {
        return numbers;
    }

    // Promise 12: 0 to 1,000 DAYS, up to DAY 9,999.

    private static void promise12DaysOf0To1000() {
        Due.is("least", onDay(7).wait(0), 7);
        Due.is("one", onDay(7).wait(1), 8);
        Due.is("greatest", onDay(7).wait(1_000), 1_007);
        for (int days : new int[] {-1, 1_001, MIN, MAX}) {
            Due.refusesArgument("wait " + days, Made::busy, x -> x.wait(days));
        }
    }

    private static void promise12ZeroDaysDoNothing() {
        Supplier<Trust> onAYearsEnd = () -> {
            Trust x = owing(1_000, 10);
            x.farmer(100);
            x.wait(365);
            return x;
        };
        Due.leavesAll("wait 0", Made::busy, "1", x -> x.wait(0));
        Due.leavesAll("wait 0 on a year's end", onAYearsEnd, "365", x -> x.wait(0));
    }

    private static void promise12UpTo9999() {
        Due.is("just", onDay(8_999).wait(1_000), 9_999);
        Due.is("by one", onDay(9_998).wait(1), 9_999);
        Due.is("by none", onDay(9_999).wait(0), 9_999);
    }

    private static void promise12NotAbove9999() {
        Due.refusesArgument("1000 of 9000", () -> onDay(9_000), x -> x.wait(1_000));
        Due.refusesArgument("2 of 9998", () -> onDay(9_998), x -> x.wait(2));
        for (int days : new int[] {1, 2, 1_000, MAX, MIN}) {
            Due.refusesArgument(days + " of 9999", () -> onDay(9_999), x -> x.wait(days));
        }
    }

    private static void promise12ManyDaysAreAsOneByOne() {
        Trust slow = Made.busy();
        for (int i = 0; i < 400; i++) {
            slow.wait(1);
        }
        Trust fast = Made.busy();
        fast.wait(400);
        for (int what = 0; what <= 9; what++) {
            Due.is("count " + what, slow.count(what), fast.count(what));
        }
        for (int line = 0; line < fast.count(7); line++) {
            Due.line(slow, line, fast.journal(line, 0), fast.journal(line, 1), fast.journal(line, 2), fast.journal(line, 3));
        }
    }

    // Promise 19: a sum of 1 to 10,000,000, a RATE of 0 to 500, a RANK of 0 to 3; 10 at most.

    private static void promise19SumOf1To10000000() {
        for (int sum : new int[] {1, 10_000_000}) {
            Trust x = owing(sum, 0);
            isLoan(x, 0, sum, 0, 0, 0);
            Due.is("box", x.box(0), sum);
            Due.line(x, 0, 0, 3, 0, sum);
        }
        for (int sum : new int[] {0, -1, 10_000_001, MIN, MAX}) {
            Due.refusesArgument("sum " + sum, Made::busy, x -> x.borrow(sum, 5, 1));
        }
    }

    private static void promise19RateOf0To500() {
        for (int rate : new int[] {0, 1, 499, 500}) {
            isLoan(owing(100, rate), 0, 100, rate, 0, 0);
        }
        for (int rate : new int[] {-1, 501, MIN, MAX}) {
            Due.refusesArgument("rate " + rate, Made::busy, x -> x.borrow(100, rate, 1));
        }
    }

    private static void promise19RankOf0To3() {
        for (int rank = 0; rank <= 3; rank++) {
            Trust x = new Trust();
            x.borrow(100, 5, rank);
            isLoan(x, 0, 100, 5, rank, 0);
        }
        for (int rank : new int[] {-1, 4, MIN, MAX}) {
            Due.refusesArgument("rank " + rank, Made::busy, x -> x.borrow(100, 5, rank));
        }
    }

    private static void promise19TenLoans() {
        Trust x = new Trust();
        for (int i = 0; i < 10; i++) {
            Due.is("loan " + i, x.borrow(10_000_000, i, i % 4), i);
            Due.is("loans", x.count(6), i + 1);
        }
        Due.is("box", x.box(0), 100_000_000);
        isLoan(x, 9, 10_000_000, 9, 1, 0);
    }

    private static void promise19NoEleventh() {
        Due.refusesState("an 11th", Made::full, x -> x.borrow(100, 5, 1));
        Trust x = Made.full();
        Due.is("a whole loan back", x.repay(0, 100), 0);
        Due.state("an 11th behind it", () -> x.borrow(100, 5, 1));
        Due.is("loans", x.count(6), 10);
        Due.index("of an 11th", () -> x.loan(10, 0));
    }

    private static void promise19ARefusedLoanIsNone() {
        Trust x = new Trust();
        for (int i = 0; i < 12; i++) {
            Due.argument("sum 0", () -> x.borrow(0, 0, 0));
        }
        Due.is("lines", x.count(7), 0);
        for (int i = 0; i < 10; i++) {
            Due.is("loan " + i, x.borrow(1, 0, 0), i);
        }
    }

    // Promise 20.

    private static void promise20NoSuchLoan() {
        Due.is("loans of busy", Made.busy().count(6), 2);
        for (int loan : new int[] {-1, 2, 10, MIN, MAX}) {
            Due.refusesIndex("loan " + loan, Made::busy, x -> x.repay(loan, 1));
        }
        for (int loan : new int[] {0, -1, MIN, MAX}) {
            Due.refusesIndex("loan " + loan + " of none", Trust::new, x -> x.repay(loan, 1));
        }
    }

    private static void promise20BelowOne() {
        for (int sum : new int[] {0, -1, MIN}) {
            Due.refusesArgument("sum " + sum, Made::busy, x -> x.repay(0, sum));
        }
        Due.is("one", owing(100, 0).repay(0, 1), 99);
    }

    private static void promise20AllOfIt() {
        Trust x = owing(100, 0);
        Due.is("all but one", x.repay(0, 99), 1);
        Due.is("the last one", x.repay(0, 1), 0);
        isLoan(x, 0, 0, 0, 0, 0);
        Due.is("box", x.box(0), 0);
        Due.line(x, 1, 0, 5, 0, -99);
        Due.line(x, 2, 0, 5, 0, -1);
        Due.is("all at once", owing(10_000_000, 500).repay(0, 10_000_000), 0);
    }

    private static void promise20TheLoanHasLess() {
        Supplier<Trust> made = () -> {
            Trust x = owing(100, 0);
            x.borrow(1_000, 0, 0);
            return x;
        };
        for (int sum : new int[] {101, 102, MAX}) {
            Due.leavesAll("repay " + sum, made, "-1", x -> x.repay(0, sum));
        }
        Due.is("just as much", made.get().repay(0, 100), 0);
        Trust none = made.get();
        none.repay(0, 100);
        Due.is("of none", none.repay(0, 1), NONE);
        Due.is("box", none.box(0), 1_000);
    }

    private static void promise20TheBoxHasLess() {
        Supplier<Trust> made = () -> {
            Trust x = owing(1_000, 0);
            Made.spend(x, 400);
            return x;
        };
        for (int sum : new int[] {601, 1_000}) {
            Due.leavesAll("repay " + sum, made, "-1", x -> x.repay(0, sum));
        }
        Trust x = made.get();
        Due.is("just as much", x.repay(0, 600), 400);
        Due.is("box", x.box(0), 0);
        Due.is("of an empty box", x.repay(0, 1), NONE);
        isLoan(x, 0, 400, 0, 0, 0);
    }

    private static void promise20OneLoanAlone() {
        Trust x = new Trust();
        for (int i = 0; i < 10; i++) {
            x.borrow(100, 0, 0);
        }
        Due.is("of the last", x.repay(9, 30), 70);
        for (int i = 0; i < 9; i++) {
            isLoan(x, i, 100, 0, 0, 0);
        }
        Due.line(x, 10, 0, 5, 9, -30);
    }

    private static void promise20WhatIsDueStays() {
        Trust x = owing(100, 500);
        x.wait(730);
        Due.is("box", x.box(730), 0);
        x.wait(365);
        isLoan(x, 0, 100, 500, 0, 50);
        Due.is("of an empty box", x.repay(0, 1), NONE);
        x.borrow(100, 0, 0);
        Due.is("all of it", x.repay(0, 100), 0);
        isLoan(x, 0, 0, 500, 0, 50);
        x.borrow(70, 0, 0);
        x.wait(365);
        isLoan(x, 0, 0, 500, 0, 0);
        Due.is("box then", x.box(1_460), 20);
    }

    private static void promise20WhatIsDueIsNoPartOfTheLoan() {
        Supplier<Trust> made = () -> {
            Trust x = owing(100, 500);
            waits(x, 1_095);
            x.borrow(1_000, 0, 0);
            return x;
        };
        Due.is("due", made.get().loan(0, 3), 50);
        for (int sum : new int[] {101, 150, 151}) {
            Due.leavesAll("repay " + sum, made, "-1", x -> x.repay(0, sum));
        }
        Due.is("all of it", made.get().repay(0, 100), 0);
    }

    // Promise 21.

    private static void promise21NoSuchLoan() {
        for (int loan : new int[] {-1, 2, 10, MIN, MAX}) {
            Due.refusesIndex("loan " + loan, Made::busy, x -> x.loan(loan, 0));
        }
        for (int loan : new int[] {0, -1, MIN, MAX}) {
            Due.refusesIndex("loan " + loan + " of none", Trust::new, x -> x.loan(loan, 0));
        }
    }

    private static void promise21AnotherWhat() {
        for (int what : new int[] {-1, 4, MIN, MAX}) {
            Due.refusesArgument("what " + what, Made::busy, x -> x.loan(1, what));
        }
    }

    private static void promise21EachWhat() {
        isLoan(Made.busy(), 0, 990, 50, 1, 0);
        isLoan(Made.busy(), 1, 300, 100, 0, 0);
    }

    // Part 5: how DUE grows.

    private static void part5AtEachDayThatIsAMultipleOf365But0() {
        Trust x = owing(1_000, 100);
        Due.is("on day 0", x.box(0), 1_000);
        Due.is("lines of day 0", x.count(7), 1);
        int[][] due = {{364, 1_000}, {365, 900}, {366, 900}, {729, 900}, {730, 800}, {731, 800}, {1_094, 800}, {1_095, 700}};
        for (int[] one : due) {
            waits(x, one[0] - x.count(0));
            Due.is("box of day " + one[0], x.box(one[0]), one[1]);
        }
        Due.line(x, 1, 365, 4, 0, -100);
        Due.line(x, 2, 730, 4, 0, -100);
    }

    private static void part5TheLastYearsEnd() {
        Trust x = owing(100_000, 10);
        waits(x, 9_854);
        Due.is("lines ahead of day 9855", x.count(7), 1 + 26);
        x.wait(1);
        Due.is("lines of day 9855", x.count(7), 1 + 27);
        x.wait(144);
        Due.is("lines of the last day", x.count(7), 1 + 27);
        Due.is("box", x.box(9_999), 100_000 - 27_000);
    }

    private static void part5ALoanOfTheDayAheadGrowsToo() {
        Trust x = onDay(364);
        x.borrow(1_000, 100, 0);
        x.wait(1);
        Due.is("box", x.box(365), 900);
    }

    private static void part5ALoanOfTheDayItselfDoesNot() {
        Trust x = onDay(365);
        x.borrow(1_000, 100, 0);
        isLoan(x, 0, 1_000, 100, 0, 0);
        x.wait(364);
        Due.is("box of day 729", x.box(729), 1_000);
        x.wait(1);
        Due.is("box of day 730", x.box(730), 900);
    }

    private static void part5InterestIsCut() {
        int[][] due = {{1, 500, 0}, {1, 0, 0}, {2, 500, 1}, {3, 500, 1}, {999, 1, 0}, {1_000, 1, 1}, {1_999, 1, 1},
            {1_999, 100, 199}, {10_000_000, 500, 5_000_000}, {9_999_999, 500, 4_999_999}, {10_000_000, 1, 10_000}};
        for (int[] one : due) {
            Trust x = owing(one[0], one[1]);
            x.wait(365);
            Due.is("box of " + one[0] + " at " + one[1], x.box(365), one[0] - one[2]);
            Due.is("lines", x.count(7), one[2] > 0 ? 2 : 1);
        }
    }

    private static void part5InterestOfEachLoanIsCutByItself() {
        Trust x = new Trust();
        x.borrow(1_999, 1, 0);
        x.borrow(1_999, 1, 0);
        x.wait(365);
        Due.is("box", x.box(365), 2 * 1_999 - 2);
    }

    private static void part5WhatIsDueBearsNoInterest() {
        Trust x = owing(1_000, 500);
        x.wait(730);
        for (int year = 1; year <= 5; year++) {
            x.wait(365);
            isLoan(x, 0, 1_000, 500, 0, 500 * year);
        }
        Due.is("no line of nothing", x.count(7), 3);
    }

    private static void part5TheMostThatMayBeDue() {
        Trust x = new Trust();
        for (int i = 0; i < 10; i++) {
            x.borrow(10_000_000, 500, 0);
        }
        waits(x, 9_999);
        for (int i = 0; i < 10; i++) {
            isLoan(x, i, 10_000_000, 500, 0, 25 * 5_000_000);
        }
        Due.is("box", x.box(9_999), 0);
    }

    // Part 5: RANK by RANK, and the parting.

    private static void part5TheBoxHasJustAllThatIsDue() {
        parts(60, of(10, 20, 30), of(0, 0, 0), 10, 20, 30);
        parts(60, of(10, 20, 30), of(2, 1, 2), 10, 20, 30);
    }

    private static void part5TheBoxHasOneMore() {
        parts(61, of(10, 20, 30), of(0, 0, 0), 10, 20, 30);
    }

    private static void part5TheBoxHasOneLess() {
        // 59 by 60: 9 50/60, 19 40/60, 29 30/60; two are left.
        parts(59, of(10, 20, 30), of(0, 0, 0), 10, 20, 29);
        parts(9, of(10), of(0), 9);
    }

    private static void part5TheBoxIsEmpty() {
        parts(0, of(10, 20, 30), of(0, 1, 0), 0, 0, 0);
        parts(0, of(1), of(0), 0);
        parts(0, of(1, 1), of(2, 2), 0, 0);
        parts(0, of(5_000_000), of(3), 0);
    }

    private static void part5TheBoxHasOne() {
        parts(1, of(10, 20, 30), of(0, 0, 0), 0, 0, 1);
        parts(1, of(30, 20, 10), of(0, 0, 0), 1, 0, 0);
        parts(1, of(10, 10, 10), of(3, 3, 3), 1, 0, 0);
    }

    private static void part5NothingIsLeftOfTheDivisions() {
        parts(30, of(10, 20, 30), of(0, 0, 0), 5, 10, 15);
    }

    private static void part5WhatIsLeftGoesToThoseOfWhichMostWasCut() {
        // 25 by 60: 4 10/60, 8 20/60, 12 30/60; one is left.
        parts(25, of(10, 20, 30), of(0, 0, 0), 4, 8, 13);
        // 50 by 60: 8 20/60, 16 40/60, 25; one is left.
        parts(50, of(10, 20, 30), of(0, 0, 0), 8, 17, 25);
        // 5 by 12: 2 1/12, 1 8/12, 1 3/12; one is left, and not for the one that gets most.
        parts(5, of(5, 4, 3), of(0, 0, 0), 2, 2, 1);
        // 11 by 15: 5 2/15, 2 14/15, 2 14/15: two are left.
        parts(11, of(7, 4, 4), of(0, 0, 0), 5, 3, 3);
        // 3 by 5: 3/5, 3/5, 1 4/5: two are left, one of them for the one that gets most.
        parts(3, of(1, 1, 3), of(0, 0, 0), 1, 0, 2);
        // 2 by 6: 1 2/6, 2/6, 2/6: one is left, for the first of three that are alike, though it gets some already.
        parts(2, of(4, 1, 1), of(0, 0, 0), 2, 0, 0);
        // 4 by 7: 4/7, 2 6/7, 4/7: two are left.
        parts(4, of(1, 5, 1), of(0, 0, 0), 1, 3, 0);
        // 2 by 7: 2/7, 2/7, 1 3/7: one is left.
        parts(2, of(1, 1, 5), of(0, 0, 0), 0, 0, 2);
    }

    private static void part5OfRestsAlikeTheFirst() {
        parts(1, of(5, 5), of(0, 0), 1, 0);
        parts(2, of(5, 5, 5), of(0, 0, 0), 1, 1, 0);
        parts(3, of(5, 5, 5, 5), of(1, 1, 1, 1), 1, 1, 1, 0);
        // 3 by 10: 1 2/10, 1 2/10, 6/10: one is left for the last.
        parts(3, of(4, 4, 2), of(0, 0, 0), 1, 1, 1);
        // 6 by 12: 1 6/12, 1, 1 6/12, 2: one is left for the first of two that are alike.
        parts(6, of(3, 2, 3, 4), of(0, 0, 0, 0), 2, 1, 1, 2);
    }

    private static void part5AsManyAreLeftAsMayBe() {
        parts(8, of(10, 10, 10, 10, 10, 10, 10, 10, 10), of(0, 0, 0, 0, 0, 0, 0, 0, 0), 1, 1, 1, 1, 1, 1, 1, 1, 0);
        parts(89, of(10, 10, 10, 10, 10, 10, 10, 10, 10), of(0, 0, 0, 0, 0, 0, 0, 0, 0), 10, 10, 10, 10, 10, 10, 10, 10, 9);
    }

    private static void part5TheLeastRests() {
        parts(1, of(1, 1), of(0, 0), 1, 0);
        parts(2, of(1, 1, 1), of(2, 2, 2), 1, 1, 0);
        parts(2, of(1, 2), of(0, 0), 1, 1);
    }

    private static void part5AllTenLoansAreParted() {
        partsOfTen(0, 0);
        partsOfTen(1, 1);
        partsOfTen(9, 9);
        partsOfTen(10, 10);
        partsOfTen(11, 10);
    }

    /** Ten loans with an interest of 1 a year each, and a box that tolls fill for the third year's end: the first ones get it. */
    private static void partsOfTen(int box, int paid) {
        Trust x = Made.road("toll " + box + ";");
        for (int i = 0; i < 10; i++) {
            x.borrow(2, 500, 1);
        }
        waits(x, 3 * 365 - 1);
        Due.is("box behind two years", x.box(9_999), 0);
        x.pass(0, 0);
        int line = x.count(7);
        x.wait(1);
        for (int i = 0; i < 10; i++) {
            Due.is("due of loan " + i + " of a box of " + box, x.loan(i, 3), i < paid ? 0 : 1);
        }
        for (int i = 0; i < paid; i++) {
            Due.line(x, line + i, 3 * 365, 4, i, -1);
        }
        Due.is("lines of a box of " + box, x.count(7), line + paid);
        Due.is("what is left of a box of " + box, x.box(3 * 365), box - paid);
    }

    private static void part5RankByRank() {
        parts(10, of(10, 10, 10, 10), of(0, 1, 2, 3), 10, 0, 0, 0);
        parts(10, of(10, 10, 10, 10), of(3, 2, 1, 0), 0, 0, 0, 10);
        parts(35, of(10, 10, 10, 10), of(3, 1, 0, 2), 5, 10, 10, 10);
        parts(39, of(10, 10, 10, 10), of(2, 0, 3, 1), 10, 10, 9, 10);
        parts(40, of(10, 10, 10, 10), of(2, 0, 3, 1), 10, 10, 10, 10);
        parts(41, of(10, 10, 10, 10), of(2, 0, 3, 1), 10, 10, 10, 10);
    }

    private static void part5ARankOfWhichNothingIsDue() {
        parts(5, of(10, 20), of(3, 3), 2, 3);
        parts(12, of(10, 20), of(1, 3), 10, 2);
    }

    private static void part5ARankThatLacksLeavesNothingToTheNext() {
        parts(19, of(10, 20, 5), of(0, 0, 1), 6, 13, 0);
        parts(1, of(10, 20, 5), of(0, 0, 1), 0, 1, 0);
    }

    private static void part5ARankIsPartedByWhatIsLeftOfTheBox() {
        // 9 are left of 20 behind rank 1: by 15, 4 3/15, 4 12/15.
        parts(20, of(7, 11, 8), of(2, 1, 2), 4, 11, 5);
    }

    private static void part5ALoanOfWhichNothingIsDueGetsNothing() {
        parts(7, of(10, 0, 10), of(0, 0, 0), 4, 0, 3);
    }

    private static void part5TheBoxIsPartedByWhatIsDueNotByTheYear() {
        Trust x = aheadOfParting(40, of(40, 20), of(0, 1));
        x.wait(1);
        isLoan(x, 0, 80, 500, 0, 0);
        isLoan(x, 1, 40, 500, 1, 20);
        x.borrow(30, 0, 3);
        x.wait(365);
        isLoan(x, 0, 80, 500, 0, 10);
        isLoan(x, 1, 40, 500, 1, 40);
        Trust y = aheadOfParting(2, of(3, 3), of(0, 0));
        y.wait(1);
        isLoan(y, 0, 6, 500, 0, 2);
        isLoan(y, 1, 6, 500, 0, 2);
        y.borrow(1, 0, 3);
        y.wait(365);
        isLoan(y, 0, 6, 500, 0, 4);
        isLoan(y, 1, 6, 500, 0, 5);
        // 1 by 7 and 8 that are due then, though 3 a year are of both.
        y.borrow(1, 0, 3);
        y.wait(365);
        isLoan(y, 0, 6, 500, 0, 7);
        isLoan(y, 1, 6, 500, 0, 7);
    }

    private static void part5PartingOfGreatSums() {
        parts(9_999_999, of(5_000_000, 5_000_000, 5_000_000), of(0, 0, 0), 3_333_333, 3_333_333, 3_333_333);
        parts(9_999_998, of(5_000_000, 5_000_000, 5_000_000), of(0, 0, 0), 3_333_333, 3_333_333, 3_333_332);
        // 7,654,321 by 14,999,994.
        parts(7_654_321, of(4_999_999, 4_999_998, 4_999_997), of(0, 0, 0), 2_551_441, 2_551_440, 2_551_440);
    }

    private static void part5WhatLacksStaysDue() {
        Trust x = aheadOfParting(25, of(10, 20, 30), of(0, 0, 0));
        x.wait(1);
        x.borrow(1_000, 0, 0);
        x.wait(365);
        for (int i = 0; i < 3; i++) {
            Due.is("due of loan " + i, x.loan(i, 3), 0);
        }
        Due.is("box", x.box(4 * 365), 1_000 - 35 - 60);
    }

    // Part 5: the DAY moving on.

    private static void part5InterestGoesAheadOfTheRents() {
        // Day 365 is a rent's day as well; the rent comes behind the parting, and pays nothing of it.
        Trust x = new Trust();
        x.stretch(1);
        x.gate(0);
        x.farmer(1_000);
        x.borrow(1_000, 500, 0);
        x.repay(0, 600);
        x.bid(0, 0, 10, 50);
        x.wait(1);
        Made.spend(x, 400);
        x.let(0, 5);
        x.wait(363);
        Due.is("box of day 364", x.box(364), 40);
        x.wait(1);
        Due.line(x, 7, 365, 4, 0, -40);
        Due.line(x, 8, 365, 1, 0, 10);
        Due.is("box of day 365", x.box(365), 10);
        isLoan(x, 0, 400, 500, 0, 160);
    }

    private static void part5ASuretyComesBehindTheInterestToo() {
        Trust x = new Trust();
        x.stretch(1);
        x.gate(0);
        x.farmer(90);
        x.borrow(100, 500, 0);
        x.repay(0, 10);
        Made.spend(x, 90);
        x.wait(1);
        x.bid(0, 0, 10, 50);
        x.let(0, 5);
        x.wait(364);
        Due.line(x, 7, 365, 4, 0, -40);
        Due.line(x, 8, 365, 2, 0, 50);
        isLoan(x, 0, 90, 500, 0, 5);
    }

    private static void part5DayByDay() {
        // In one wait: rents of days 91, 182 and 273, then the year's interest is paid of them.
        Trust x = new Trust();
        x.stretch(1);
        x.gate(0);
        x.farmer(1_000);
        x.borrow(100, 500, 0);
        Made.spend(x, 100);
        x.bid(0, 0, 10, 50);
        x.let(0, 40);
        x.wait(365);
        Due.line(x, 5, 273, 1, 0, 10);
        Due.is("rent of day 364", x.journal(6, 0), 364);
        Due.line(x, 7, 365, 4, 0, -50);
        Due.is("box of day 365", x.box(365), 0);
    }

    // Promise 24.

    private static void promise24DayOf0To9999() {
        Due.is("day 0", Made.roads(5).box(0), 5);
        Due.is("day 9999", Made.roads(5).box(9_999), 5);
        for (int day : new int[] {-1, 10_000, MIN, MAX}) {
            Due.refusesArgument("day " + day, Made::busy, x -> x.box(day));
            Due.refusesArgument("day " + day + " of a new one", Trust::new, x -> x.box(day));
        }
    }

    private static void promise24TodayByNow() {
        Trust x = onDay(10);
        Due.is("nothing yet", x.box(10), 0);
        x.borrow(100, 0, 0);
        Due.is("one line", x.box(10), 100);
        x.repay(0, 30);
        Due.is("two lines", x.box(10), 70);
    }

    private static void promise24LaterOnesAsToday() {
        Trust x = onDay(10);
        x.borrow(100, 500, 0);
        for (int day : new int[] {11, 364, 365, 366, 9_999}) {
            Due.is("box of day " + day, x.box(day), 100);
        }
    }

    private static void promise24BehindTheEndOfADay() {
        Trust x = onDay(2);
        x.borrow(100, 0, 0);
        x.repay(0, 30);
        x.repay(0, 5);
        x.wait(2);
        x.borrow(7, 0, 0);
        x.wait(1);
        long[] due = {0, 0, 65, 65, 72, 72, 72};
        for (int day = 0; day < due.length; day++) {
            Due.is("box of day " + day, x.box(day), due[day]);
        }
    }

    private static void promise24AheadOfAnyLine() {
        Trust x = onDay(9_999);
        Due.is("no line at all", x.box(9_998), 0);
        x.borrow(7, 0, 0);
        Due.is("day 9998", x.box(9_998), 0);
        Due.is("day 0", x.box(0), 0);
        Due.is("day 9999", x.box(9_999), 7);
    }

    private static void promise24OfDay0Later() {
        Trust x = owing(9, 0);
        x.wait(1);
        x.borrow(1, 0, 0);
        Due.is("day 0", x.box(0), 9);
        Due.is("day 1", x.box(1), 10);
    }

    private static void promise24WhatADayBringsWhenItComes() {
        Trust x = owing(1_000, 100);
        x.wait(400);
        Due.is("day 364", x.box(364), 1_000);
        Due.is("day 365", x.box(365), 900);
        Due.is("day 399", x.box(399), 900);
    }

    private static void promise24TheGreatestBox() {
        Trust x = Made.road("toll 1000000;");
        for (int i = 0; i < 10; i++) {
            x.borrow(10_000_000, 0, 0);
        }
        for (int i = 0; i < 480; i++) {
            x.pass(0, 0);
        }
        x.wait(1);
        Due.is("of day 0", x.box(0), 580_000_000);
        Due.is("of today", x.box(1), 580_000_000);
    }

    private static void promise24AllMoneyOfEightFarmers() {
        Trust x = eightFarmersSpent();
        Due.is("of today", x.box(9_999), 8_000_000_000L);
        Due.is("of a day that is over", x.box(9_998), 8_000_000_000L);
        for (int i = 0; i < 8; i++) {
            Due.is("money " + i, x.money(i), 0);
        }
    }

    private static void promise24ABoxAboveWhatAnIntHolds() {
        Trust x = lettingEight();
        for (int i = 0; i < 26; i++) {
            x.wait(91);
            Due.is("box behind rent " + i, x.box(x.count(0)), (i + 2) * 80_000_000L);
        }
        Due.is("of the day ahead of the last rent", x.box(26 * 91 - 1), 26 * 80_000_000L);
    }

    private static void promise20OfABoxAboveWhatAnIntHolds() {
        Trust x = eightFarmersSpent();
        x.borrow(300, 0, 0);
        Due.is("repay", x.repay(0, 299), 1);
        Due.is("box", x.box(9_999), 8_000_000_001L);
    }

    private static void promise14OfABoxAboveWhatAnIntHolds() {
        Trust x = eightFarmersSpent();
        x.pass(x.traveller(Made.CATTLE, 0, 60, 0), 0);
        Due.is("loads", x.mend(3), 2);
        Due.is("box", x.box(9_999), 7_999_999_980L);
    }

    private static void part5InterestOfABoxAboveWhatAnIntHolds() {
        Trust x = lettingEight();
        waits(x, 27 * 91);
        x.borrow(1_000, 500, 2);
        Due.is("box", x.box(2_457), 28 * 80_000_000L + 1_000);
        x.wait(7 * 365 - 2_457);
        Due.is("due", x.loan(0, 3), 0);
        Due.is("box behind the interest", x.box(2_555), 29 * 80_000_000L + 1_000 - 500);
    }

    /** Eight farmers as rich as may be, each with a gate at the greatest rent, on day 0. */
    private static Trust lettingEight() {
        Trust x = new Trust();
        x.stretch(10);
        for (int i = 0; i < 8; i++) {
            x.gate(0);
            x.farmer(1_000_000_000);
        }
        letEight(x);
        return x;
    }

    private static void letEight(Trust x) {
        for (int i = 0; i < 8; i++) {
            x.bid(i, i, 10_000_000, 10_000_000);
            Due.is("let", x.let(i, 40), i);
        }
    }

    /** The same on the last day, behind three leases: the last ones ended for lack of money, with the surety. */
    private static Trust eightFarmersSpent() {
        Trust x = lettingEight();
        waits(x, 3_640);
        letEight(x);
        waits(x, 3_640);
        letEight(x);
        waits(x, 9_999 - 7_280);
        return x;
    }

    // Promise 25 and the JOURNAL of part 5.

    private static void promise25NoSuchLine() {
        int lines = Made.busy().count(7);
        for (int k : new int[] {-1, lines, lines + 1, 64, 12_000, MIN, MAX}) {
            Due.refusesIndex("line " + k, Made::busy, x -> x.journal(k, 0));
        }
        for (int k : new int[] {0, -1, MIN, MAX}) {
            Due.refusesIndex("line " + k + " of none", Trust::new, x -> x.journal(k, 0));
        }
    }

    private static void promise25TheFirstAndTheLastLine() {
        Trust x = owing(5, 0);
        x.wait(3);
        x.borrow(6, 0, 0);
        x.repay(0, 2);
        Due.line(x, 0, 0, 3, 0, 5);
        Due.line(x, 2, 3, 5, 0, -2);
        Due.index("one more", () -> x.journal(3, 0));
    }

    private static void promise25AnotherWhat() {
        for (int what : new int[] {-1, 4, MIN, MAX}) {
            Due.refusesArgument("what " + what, Made::busy, x -> x.journal(0, what));
        }
    }

    private static void part5TheJournalTellsEachKind() {
        Trust x = Made.road("toll 8;");
        x.farmer(0);
        x.farmer(130);
        x.traveller(Made.CATTLE, 0, 50, 0);
        x.stretch(3);
        x.gate(1);
        x.pass(1, 2);
        x.wait(3);
        x.bid(1, 1, 60, 70);
        x.let(1, 2);
        x.borrow(50, 0, 3);
        x.borrow(1_000, 100, 2);
        x.repay(1, 20);
        x.mend(1);
        waits(x, 362);
        Due.line(x, 0, 0, 0, 1, 8);
        Due.line(x, 1, 3, 1, 1, 60);
        Due.line(x, 2, 3, 3, 0, 50);
        Due.line(x, 3, 3, 3, 1, 1_000);
        Due.line(x, 4, 3, 5, 1, -20);
        Due.line(x, 5, 3, 6, 1, -3);
        Due.line(x, 6, 94, 2, 1, 70);
        Due.line(x, 7, 365, 4, 1, -98);
        Due.is("lines", x.count(7), 8);
    }

    private static void part5TollsOf0AreNotInTheJournal() {
        Trust x = Made.road("free if gate = 1; once; toll 1;");
        x.pass(0, 1);
        Due.is("behind a free one", x.count(7), 0);
        x.pass(0, 0);
        Due.is("behind one", x.count(7), 1);
        x.pass(0, 0);
        Due.is("behind a second one of the day", x.count(7), 1);
        Due.line(x, 0, 0, 0, 0, 1);
    }

    private static void part5WhatDoesntChangeTheBoxIsNotInTheJournal() {
        Trust x = Made.road("toll 5;");
        x.farmer(100);
        x.bid(0, 0, 9, 9);
        Due.is("behind a bid", x.count(7), 0);
        x.let(0, 1);
        Due.is("behind a rent", x.count(7), 1);
        x.pass(0, 0);
        Due.is("behind a farmer's toll", x.count(7), 1);
        Due.is("loads for 10 of a box of 9", x.mend(20), 0);
        Due.is("behind no load", x.count(7), 1);
        x.borrow(5, 0, 0);
        Due.is("more than the loan", x.repay(0, 6), NONE);
        Due.is("behind nothing paid back", x.count(7), 2);
        x.wait(91);
        Due.is("behind the lease's end", x.count(7), 2);
    }

    private static void part5OneLineOfInterestForEachThatGetsSome() {
        Trust x = new Trust();
        x.borrow(1_000, 10, 1);
        x.borrow(1_000, 0, 0);
        x.borrow(1_000, 20, 0);
        x.borrow(1, 500, 0);
        x.borrow(1_000, 30, 1);
        x.wait(365);
        Due.line(x, 5, 365, 4, 2, -20);
        Due.line(x, 6, 365, 4, 0, -10);
        Due.line(x, 7, 365, 4, 4, -30);
        Due.is("lines", x.count(7), 8);
    }

    private static void part5OneLineForEachLoad() {
        Trust x = Made.roads(100, 2, 1_000);
        x.mend(20);
        Due.is("lines", x.count(7), 21);
        for (int line = 1; line <= 20; line++) {
            Due.line(x, line, 0, 6, 0, -2);
        }
    }

    private static void part5LinesAreKeptWhereThereAreMany() {
        Trust x = owing(1_000, 0);
        for (int i = 1; i <= 200; i++) {
            x.repay(0, i % 3 + 1);
        }
        Due.is("lines", x.count(7), 201);
        for (int line : new int[] {1, 63, 64, 65, 127, 128, 129, 200}) {
            Due.line(x, line, 0, 5, 0, -(line % 3 + 1));
        }
    }

    // Promise 26.

    private static void promise26EachWhatAt0AndNoneForOthers() {
        Trust x = new Trust();
        for (int what = 0; what <= 9; what++) {
            Due.is("count " + what, x.count(what), 0);
        }
        for (int what : new int[] {-1, 10, 11, MIN, MAX}) {
            Due.is("count " + what, x.count(what), NONE);
        }
    }

    private static void promise26EachWhatAsMuchAsMayBe() {
        Trust x = Made.full();
        x.rain(1_000);
        waits(x, 9_999);
        x.rain(1_000);
        int[] due = {9_999, 12, 12, 8, 60, 8, 10, x.count(7), 20, 1_000};
        for (int what = 0; what <= 9; what++) {
            Due.is("count " + what, x.count(what), due[what]);
        }
        Due.is("a full tape", Made.roads(0).count(8), 0);
        Trust tape = new Trust();
        tape.put(" ".repeat(2_000));
        Due.is("a full tape", tape.count(8), 2_000);
    }

    private static void promise26DaysThatItRainsYet() {
        Trust x = new Trust();
        int[] due = {3, 2, 1, 0, 0};
        x.rain(3);
        for (int left : due) {
            Due.is("on day " + x.count(0), x.count(9), left);
            x.wait(1);
        }
    }

    // The first section: at most 512 calls of an object.

    private static void use512TheMostLines() {
        Trust x = new Trust();
        x.stretch(1);
        x.gate(0);
        x.traveller(Made.CATTLE, 0, 10_000, 0);
        x.borrow(10_000_000, 0, 0);
        for (int i = 0; i < 46; i++) {
            x.pass(0, 0);
        }
        for (int i = 0; i < 453; i++) {
            Due.is("mend", x.mend(20), 20);
        }
        Due.is("lines", x.count(7), 453 * 20 + 1);
        Due.line(x, 453 * 20, 0, 6, 0, -1);
        Due.is("box", x.box(0), 10_000_000 - 453 * 20);
        Due.is("wear", x.wear(0), 460_000 - 453 * 20 * 50);
        x.wait(1);
        Due.is("box of day 0", x.box(0), 10_000_000 - 453 * 20);
        Due.is("calls", x.calls(), 512);
    }

    private static void use512TheLastCallIsAnswered() {
        Trust x = Made.road("toll 1;");
        int calls = x.calls();
        for (int i = calls; i < 511; i++) {
            x.pass(0, 0);
        }
        Due.is("the 512th call", x.box(0), 511 - calls);
        Due.is("calls", x.calls(), 512);
    }

    private static void use512AllDaysWithAllRentsAndInterest() {
        Trust x = new Trust();
        x.stretch(1);
        for (int i = 0; i < 8; i++) {
            x.gate(0);
            x.farmer(1_000_000_000);
        }
        for (int i = 0; i < 10; i++) {
            x.borrow(10_000_000, 500, i % 4);
        }
        for (int day = 0; day < 9_999; day = x.count(0)) {
            for (int i = 0; i < 8; i++) {
                if (x.gateTold(i, 1) == NONE) {
                    x.bid(i, i, 1_000, 1_000);
                    Due.is("let", x.let(i, 40), i);
                }
            }
            x.wait(Math.min(910, 9_999 - day));
        }
        // 110 rents a gate, on days 0 to 9,919, and ten lines of the loans; interest of two years, then of the rents.
        long rents = 0;
        int lines = x.count(7);
        Due.is("the last line's day", x.journal(lines - 1, 0), 9_919);
        for (int i = 0; i < 8; i++) {
            rents += 1_000_000_000 - x.money(i) - 1_000;
        }
        Due.is("rents", rents, 8 * 110 * 1_000);
    }

    /** Later answers are free, but the machine itself must not throw in them either. */
    private static void use512LaterCallsEndToo() {
        TurnpikeTrust x = new TurnpikeTrust();
        x.stretch(1);
        x.gate(0);
        x.traveller(Made.CATTLE, 0, 10_000, 0);
        x.borrow(10_000_000, 0, 0);
        for (int i = 0; i < 1_000; i++) {
            x.pass(0, 0);
            x.mend(20);
            x.box(0);
            x.journal(x.count(7) - 1, 0);
        }
        Due.is("passes", x.gateTold(0, 6), 1_000);
        Due.is("box", x.box(0), 10_000_000 - 20_000);
    }
}
