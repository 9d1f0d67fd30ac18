/**
 * Calls that are refused for several reasons at once. The document doesn't say which exception comes then; these tests
 * hold the reading that it is the one that the promise names first, and that nothing has changed behind it.
 */
public final class ReasonsBoundariesTest {
    private ReasonsBoundariesTest() {
    }

    public static void main(String[] args) throws IllegalAccessException {
        Tests.run(ReasonsBoundariesTest.class);
    }

    private static void promise03AWrongLengthOrDayOfA13th() {
        Due.refusesArgument("a length of a 13th", Made::full, x -> x.act(21, 0));
        Due.refusesArgument("a day of a 13th", Made::full, x -> x.act(0, 10_000));
    }

    private static void promise05AWrongPriceOfA13th() {
        Due.refusesArgument("a price of a 13th", Made::full, x -> x.stretch(0));
    }

    private static void promise06NoSuchStretchForA9th() {
        Due.refusesIndex("a stretch for a 9th", Made::full, x -> x.gate(12));
    }

    private static void promise07AWrongKindOfA61st() {
        Due.refusesArgument("a kind of a 61st", Made::full, x -> x.traveller(7, 0, 0, 0));
        Due.refusesArgument("bits of a 61st", Made::full, x -> x.traveller(0, 0, 0, 16));
    }

    private static void promise15WrongMoneyOfA9th() {
        Due.refusesArgument("money of a 9th", Made::full, x -> x.farmer(-1));
    }

    private static void promise16AWrongBidWhereNoneIsTaken() {
        Due.refusesIndex("no such gate, and a rent of 0", Made::full, x -> x.bid(8, 0, 0, 1));
        Due.refusesIndex("no such farmer, and a surety of 0", Made::full, x -> x.bid(7, 8, 1, 0));
        Due.refusesIndex("no such farmer at a full gate", Made::full, x -> x.bid(7, 8, 1, 1));
        Due.refusesArgument("a rent of 0 at a full gate", Made::full, x -> x.bid(7, 0, 0, 1));
        Due.refusesIndex("no such farmer at a gate that is let", Made::busy, x -> x.bid(1, 2, 1, 1));
        Due.refusesArgument("a surety of 0 at a gate that is let", Made::busy, x -> x.bid(1, 0, 1, 0));
    }

    private static void promise17WrongQuartersOfAGateThatIsLet() {
        Due.refusesIndex("no such gate for 0 quarters", Made::busy, x -> x.let(3, 0));
        Due.refusesArgument("a gate that is let for 0 quarters", Made::busy, x -> x.let(1, 0));
        Due.refusesArgument("a gate without bids for 41 quarters", Made::busy, x -> x.let(0, 41));
    }

    private static void promise18AnotherWhatOfNoSuchGate() {
        Due.refusesIndex("no such gate", Made::busy, x -> x.gateTold(3, 7));
    }

    private static void promise19AWrongSumOfAn11th() {
        Due.refusesArgument("a sum of an 11th", Made::full, x -> x.borrow(0, 0, 0));
        Due.refusesArgument("a rank of an 11th", Made::full, x -> x.borrow(1, 0, 4));
    }

    private static void promise20AWrongSumOfNoSuchLoan() {
        Due.refusesIndex("no such loan", Made::busy, x -> x.repay(2, 0));
    }

    private static void promise21AnotherWhatOfNoSuchLoan() {
        Due.refusesIndex("no such loan", Made::busy, x -> x.loan(2, 4));
    }

    private static void promise25AnotherWhatOfNoSuchLine() {
        Due.refusesIndex("no such line", Made::busy, x -> x.journal(x.count(7), 4));
    }
}
