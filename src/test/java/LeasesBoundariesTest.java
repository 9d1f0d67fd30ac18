import java.util.function.Supplier;

/** The boundaries of part 4 of the document (FARMERS, BIDS, LET, RENT, SURETY) and of promises 15 to 18 and 22. */
public final class LeasesBoundariesTest {
    private static final int NONE = TurnpikeTrust.NONE;
    private static final int MIN = Integer.MIN_VALUE;
    private static final int MAX = Integer.MAX_VALUE;

    private LeasesBoundariesTest() {
    }

    public static void main(String[] args) throws IllegalAccessException {
        Tests.run(LeasesBoundariesTest.class);
    }

    /** What is told of a gate: 1 to 4, or that it is not let. */
    private static void isLet(Trust x, int gate, int farmer, int rent, int surety, int day) {
        Due.is("farmer of gate " + gate, x.gateTold(gate, 1), farmer);
        Due.is("rent of gate " + gate, x.gateTold(gate, 2), rent);
        Due.is("surety of gate " + gate, x.gateTold(gate, 3), surety);
        Due.is("day of gate " + gate, x.gateTold(gate, 4), day);
    }

    private static void isNotLet(Trust x, int gate) {
        isLet(x, gate, NONE, 0, 0, 0);
    }

    /** The money of all farmers in order, behind the box. */
    private static void has(String what, Trust x, long box, long... money) {
        Due.is("box " + what, x.box(9_999), box);
        for (int i = 0; i < money.length; i++) {
            Due.is("money of " + i + " " + what, x.money(i), money[i]);
        }
    }

    /** Gate 0 is let to farmer 0, who has some money left then. */
    private static Trust let(int rent, int surety, int left, int quarters) {
        Trust x = Made.farmers(rent + surety + left);
        x.bid(0, 0, rent, surety);
        Due.is("let", x.let(0, quarters), 0);
        return x;
    }

    /** The same with a cart that pays 5 at every gate. */
    private static Trust letWithToll(int rent, int surety, int left, int quarters) {
        Trust x = let(rent, surety, left, quarters);
        x.tell("toll 5;", 0);
        x.traveller(Made.CART, 6, 1, 0);
        return x;
    }

    private static void waits(Trust x, int days) {
        for (int left = days; left > 0; left -= Math.min(left, 1_000)) {
            x.wait(Math.min(left, 1_000));
        }
    }

    // Promise 15: MONEY of 0 to 1,000,000,000; 8 at most.

    private static void promise15MoneyOf0To1000000000() {
        for (int money : new int[] {0, 1, 999_999_999, 1_000_000_000}) {
            Trust x = new Trust();
            Due.is("farmer of " + money, x.farmer(money), 0);
            Due.is("money", x.money(0), money);
        }
        for (int money : new int[] {-1, 1_000_000_001, MIN, MAX}) {
            Due.refusesArgument("money " + money, Made::busy, x -> x.farmer(money));
            Due.refusesArgument("money " + money + " of the first", Trust::new, x -> x.farmer(money));
        }
    }

    private static void promise15EightFarmers() {
        Trust x = new Trust();
        for (int i = 0; i < 8; i++) {
            Due.is("farmer " + i, x.farmer(70 + i), i);
            Due.is("farmers", x.count(5), i + 1);
        }
        Due.is("the first one's money", x.money(0), 70);
        Due.is("the last one's money", x.money(7), 77);
    }

    private static void promise15NoNinth() {
        Due.refusesState("a 9th", Made::full, x -> x.farmer(5));
        Trust x = Made.full();
        Due.state("a 9th", () -> x.farmer(0));
        Due.is("farmers", x.count(5), 8);
        Due.index("money of a 9th", () -> x.money(8));
    }

    private static void promise15ARefusedMoneyIsNoFarmer() {
        Trust x = new Trust();
        for (int i = 0; i < 20; i++) {
            Due.argument("money -1", () -> x.farmer(-1));
        }
        for (int i = 0; i < 8; i++) {
            Due.is("farmer " + i, x.farmer(0), i);
        }
    }

    // Promise 22.

    private static void promise22NoSuchFarmer() {
        Due.is("farmers of busy", Made.busy().count(5), 2);
        for (int farmer : new int[] {-1, 2, 8, MIN, MAX}) {
            Due.refusesIndex("farmer " + farmer, Made::busy, x -> x.money(farmer));
        }
        for (int farmer : new int[] {0, -1, MIN, MAX}) {
            Due.refusesIndex("farmer " + farmer + " of none", Trust::new, x -> x.money(farmer));
        }
    }

    private static void promise22NoMoneyAndTheMost() {
        Trust x = letWithToll(10, 10, 0, 1);
        Due.is("none", x.money(0), 0);
        Trust most = Made.road("toll 1000000;");
        most.farmer(1_000_000_000);
        most.bid(0, 0, 1, 1);
        most.let(0, 1);
        for (int i = 0; i < 490; i++) {
            most.pass(0, 0);
        }
        Due.is("the most", most.money(0), 1_000_000_000L - 2 + 490_000_000L);
    }

    // Promise 16 and BIDS of part 4: 10 at most; RENT and SURETY of 1 to 10,000,000.

    private static void promise16NoSuchGateOrFarmer() {
        for (int none : new int[] {-1, 3, 8, MIN, MAX}) {
            Due.refusesIndex("gate " + none, Made::busy, x -> x.bid(none, 0, 5, 5));
            Due.refusesIndex("farmer " + none, Made::busy, x -> x.bid(0, none, 5, 5));
        }
        Due.refusesIndex("farmer 2", Made::busy, x -> x.bid(0, 2, 5, 5));
    }

    private static void promise16NoGateOrNoFarmerYet() {
        Due.refusesIndex("no gate", () -> {
            Trust x = new Trust();
            x.farmer(100);
            return x;
        }, x -> x.bid(0, 0, 1, 1));
        Due.refusesIndex("no farmer", Made::farmers, x -> x.bid(0, 0, 1, 1));
    }

    private static void promise16TheLastGateAndTheLastFarmer() {
        Trust x = Made.full();
        Due.is("the last gate but one", x.bid(6, 7, 5, 5), 1);
        Due.index("gate 8", () -> x.bid(8, 7, 5, 5));
        Due.index("farmer 8", () -> x.bid(6, 8, 5, 5));
        Due.is("let to the last", x.let(6, 1), 7);
        Due.is("of the last gate's ten bids the first of the greatest rent", x.let(7, 1), 1);
    }

    private static void promise16RentOf1To10000000() {
        Due.is("least", Made.farmers(0).bid(0, 0, 1, 5), 1);
        Due.is("greatest", Made.farmers(0).bid(0, 0, 10_000_000, 5), 1);
        for (int rent : new int[] {0, -1, 10_000_001, MIN, MAX}) {
            Due.refusesArgument("rent " + rent, Made::busy, x -> x.bid(0, 0, rent, 5));
        }
    }

    private static void promise16SuretyOf1To10000000() {
        Due.is("least", Made.farmers(0).bid(0, 0, 5, 1), 1);
        Due.is("greatest", Made.farmers(0).bid(0, 0, 5, 10_000_000), 1);
        for (int surety : new int[] {0, -1, 10_000_001, MIN, MAX}) {
            Due.refusesArgument("surety " + surety, Made::busy, x -> x.bid(0, 0, 5, surety));
        }
    }

    private static void promise16ABidIsNotWeighedYet() {
        Trust x = Made.farmers(0);
        Due.is("without money", x.bid(0, 0, 10_000_000, 10_000_000), 1);
        Due.is("of a surety below the rent", x.bid(0, 0, 10_000_000, 1), 2);
        Due.is("the same again", x.bid(0, 0, 10_000_000, 1), 3);
        has("behind bids", x, 0, 0);
        Due.is("lines", x.count(7), 0);
    }

    private static void promise16HowManyTheGateHas() {
        Trust x = Made.farmers(0, 0);
        Due.is("none yet", x.gateTold(0, 5), 0);
        Due.is("the first", x.bid(0, 0, 1, 1), 1);
        Due.is("another's", x.bid(0, 1, 1, 1), 2);
        Due.is("another gate's", x.bid(1, 0, 1, 1), 1);
        Due.is("the third", x.bid(0, 0, 1, 1), 3);
        Due.is("told of 0", x.gateTold(0, 5), 3);
        Due.is("told of 1", x.gateTold(1, 5), 1);
    }

    private static Trust tenBids() {
        Trust x = Made.farmers(100, 0);
        for (int i = 1; i <= 10; i++) {
            Due.is("bid " + i, x.bid(0, 0, i, i), i);
        }
        return x;
    }

    private static void promise16TenBids() {
        Trust x = tenBids();
        Due.is("bids", x.gateTold(0, 5), 10);
        Due.is("let", x.let(0, 1), 0);
        Due.is("by the tenth", x.gateTold(0, 2), 10);
    }

    private static void promise16NoEleventhBid() {
        Due.refusesState("an 11th", LeasesBoundariesTest::tenBids, x -> x.bid(0, 0, 50, 50));
        Trust x = tenBids();
        Due.state("an 11th", () -> x.bid(0, 0, 50, 50));
        Due.is("bids", x.gateTold(0, 5), 10);
        Due.is("at another gate", x.bid(1, 0, 50, 50), 1);
        x.let(0, 1);
        Due.is("by the tenth", x.gateTold(0, 2), 10);
    }

    private static void promise16ARefusedBidIsNone() {
        Trust x = Made.farmers(100);
        for (int i = 0; i < 12; i++) {
            Due.argument("rent 0", () -> x.bid(0, 0, 0, 1));
            Due.index("farmer 1", () -> x.bid(0, 1, 1, 1));
        }
        Due.is("bids", x.gateTold(0, 5), 0);
        Due.is("the first", x.bid(0, 0, 1, 1), 1);
    }

    private static void promise16NoBidsAtAGateThatIsLet() {
        Due.is("busy's gate 1", Made.busy().gateTold(1, 1), 0);
        Due.refusesState("a bid", Made::busy, x -> x.bid(1, 0, 5, 5));
        Due.refusesState("another's bid", Made::busy, x -> x.bid(1, 1, 5, 5));
    }

    private static void promise16BidsAgainWhereTheLeaseIsOver() {
        Trust x = let(10, 10, 0, 1);
        x.wait(90);
        Due.state("on its last day", () -> x.bid(0, 0, 5, 5));
        x.wait(1);
        Due.is("the first then", x.bid(0, 0, 5, 5), 1);
        Trust y = let(10, 10, 0, 2);
        y.wait(90);
        Due.state("ahead of a rent that lacks", () -> y.bid(0, 0, 5, 5));
        y.wait(1);
        Due.is("behind it", y.bid(0, 0, 5, 5), 1);
    }

    // Promise 17 and LET of part 4.

    private static void promise17NoSuchGate() {
        for (int gate : new int[] {-1, 3, 8, MIN, MAX}) {
            Due.refusesIndex("gate " + gate, Made::busy, x -> x.let(gate, 1));
        }
        Due.refusesIndex("gate 0 of none", Trust::new, x -> x.let(0, 1));
    }

    private static void promise17QuartersOf1To40() {
        for (int quarters : new int[] {1, 40}) {
            Trust x = Made.farmers(100);
            x.bid(0, 0, 1, 1);
            Due.is("let for " + quarters, x.let(0, quarters), 0);
        }
        for (int quarters : new int[] {0, -1, 41, MIN, MAX}) {
            Due.refusesArgument("quarters " + quarters, Made::busy, x -> x.let(2, quarters));
        }
    }

    private static void promise17ItIsLet() {
        Due.refusesState("a gate that is let", Made::busy, x -> x.let(1, 1));
        Trust x = let(10, 10, 0, 1);
        Due.state("at once", () -> x.let(0, 1));
        x.wait(90);
        Due.state("on its last day", () -> x.let(0, 1));
        x.wait(1);
        Due.is("when it is over", x.let(0, 1), NONE);
    }

    private static void promise17NoneWithoutBids() {
        Due.leavesAll("let of a gate without bids", Made::busy, "-1", x -> x.let(0, 1));
    }

    private static void promise17NoneAndTheBidsStay() {
        Supplier<Trust> made = () -> {
            Trust x = Made.farmers(100);
            x.bid(0, 0, 51, 50);
            x.bid(0, 0, 50, 51);
            return x;
        };
        Due.leavesAll("let of bids that won't do", made, "-1", x -> x.let(0, 1));
        Trust x = made.get();
        x.let(0, 1);
        Due.is("bids", x.gateTold(0, 5), 2);
        isNotLet(x, 0);
        Due.is("one more bid", x.bid(0, 0, 1, 1), 3);
        Due.is("let", x.let(0, 1), 0);
    }

    private static void promise17TheFarmerIsAnswered() {
        Trust x = Made.farmers(0, 0, 100);
        x.bid(1, 0, 9, 9);
        x.bid(1, 2, 5, 5);
        Due.is("let", x.let(1, 1), 2);
        isLet(x, 1, 2, 5, 5, 91);
        isNotLet(x, 0);
    }

    private static void part4SuretyNotBelowTheRent() {
        Trust alike = Made.farmers(1_000);
        alike.bid(0, 0, 50, 50);
        Due.is("alike", alike.let(0, 1), 0);
        Trust below = Made.farmers(1_000);
        below.bid(0, 0, 50, 49);
        Due.is("one below", below.let(0, 1), NONE);
        Trust above = Made.farmers(1_000);
        above.bid(0, 0, 50, 51);
        Due.is("one above", above.let(0, 1), 0);
    }

    private static void part4MoneyForBothTogether() {
        Trust just = Made.farmers(110);
        just.bid(0, 0, 50, 60);
        Due.is("just as much", just.let(0, 1), 0);
        has("then", just, 50, 0);
        Trust less = Made.farmers(109);
        less.bid(0, 0, 50, 60);
        Due.is("one less", less.let(0, 1), NONE);
        has("still", less, 0, 109);
        Trust none = Made.farmers(0);
        none.bid(0, 0, 1, 1);
        Due.is("none", none.let(0, 1), NONE);
    }

    private static void part4TheGreatestRentAndSurety() {
        Trust x = Made.farmers(20_000_000);
        x.bid(0, 0, 10_000_000, 10_000_000);
        Due.is("let", x.let(0, 2), 0);
        has("then", x, 10_000_000, 0);
        x.wait(91);
        has("of the surety", x, 20_000_000, 0);
        Trust y = Made.farmers(19_999_999);
        y.bid(0, 0, 10_000_000, 10_000_000);
        Due.is("one less", y.let(0, 2), NONE);
    }

    private static void part4TheLeastRentAndSurety() {
        Trust x = Made.farmers(2);
        x.bid(0, 0, 1, 1);
        Due.is("let", x.let(0, 1), 0);
        has("then", x, 1, 0);
        x.wait(91);
        has("of the surety", x, 1, 1);
    }

    private static void part4TheGreatestRentWherever() {
        int[][] orders = {{30, 20, 10}, {20, 30, 10}, {10, 20, 30}};
        for (int[] rents : orders) {
            Trust x = Made.farmers(1_000, 1_000, 1_000);
            int due = NONE;
            for (int i = 0; i < 3; i++) {
                x.bid(0, i, rents[i], 50 - rents[i] + 10);
                due = rents[i] == 30 ? i : due;
            }
            Due.is("let", x.let(0, 1), due);
            isLet(x, 0, due, 30, 30, 91);
        }
    }

    private static void part4OfAlikeRentsTheFirst() {
        Trust x = Made.farmers(1_000, 1_000, 1_000);
        x.bid(0, 2, 30, 40);
        x.bid(0, 0, 30, 99);
        x.bid(0, 1, 30, 30);
        Due.is("let", x.let(0, 1), 2);
        Due.is("surety", x.gateTold(0, 3), 40);
        Trust y = Made.farmers(1_000);
        y.bid(0, 0, 30, 31);
        y.bid(0, 0, 30, 32);
        y.let(0, 1);
        Due.is("surety of one farmer's first", y.gateTold(0, 3), 31);
    }

    private static void part4OnlyBidsThatWillDoAreWeighed() {
        Trust x = Made.farmers(100, 100);
        x.bid(0, 0, 51, 50);
        x.bid(0, 0, 50, 51);
        x.bid(0, 1, 40, 60);
        x.bid(0, 0, 50, 49);
        Due.is("let", x.let(0, 1), 1);
        isLet(x, 0, 1, 40, 60, 91);
    }

    private static void part4BidsAreWeighedWhenItIsLet() {
        Trust poorer = Made.farmers(100);
        poorer.bid(0, 0, 30, 30);
        poorer.bid(1, 0, 30, 30);
        poorer.let(0, 1);
        Due.is("too little is left", poorer.let(1, 1), NONE);
        Due.is("the bid stays", poorer.gateTold(1, 5), 1);
        Trust richer = letWithToll(10, 10, 0, 1);
        richer.bid(1, 0, 5, 5);
        richer.pass(0, 0);
        Due.is("not yet", richer.let(1, 1), NONE);
        richer.pass(0, 0);
        Due.is("enough by tolls", richer.let(1, 1), 0);
    }

    private static void part4AllBidsAreGoneThen() {
        Trust x = Made.farmers(100, 100);
        x.bid(0, 0, 10, 10);
        x.bid(0, 1, 9, 9);
        x.bid(0, 1, 12, 11);
        x.bid(1, 1, 5, 5);
        x.let(0, 1);
        Due.is("bids", x.gateTold(0, 5), 0);
        Due.is("another gate's bids", x.gateTold(1, 5), 1);
        x.wait(91);
        Due.is("bids behind the lease", x.gateTold(0, 5), 0);
        Due.is("let", x.let(0, 1), NONE);
    }

    private static void part4TheSuretyIsKeptAndTheRentDueAtOnce() {
        Trust x = let(30, 70, 5, 2);
        has("at once", x, 30, 5);
        Due.is("lines", x.count(7), 1);
        Due.line(x, 0, 0, 1, 0, 30);
        isLet(x, 0, 0, 30, 70, 91);
    }

    private static void part4RentBehindEach91Days() {
        Trust x = let(10, 10, 100, 3);
        x.wait(90);
        has("on day 90", x, 10, 100);
        isLet(x, 0, 0, 10, 10, 91);
        x.wait(1);
        has("on day 91", x, 20, 90);
        isLet(x, 0, 0, 10, 10, 182);
        x.wait(90);
        has("on day 181", x, 20, 90);
        x.wait(1);
        has("on day 182", x, 30, 80);
        isLet(x, 0, 0, 10, 10, 273);
    }

    private static void part4AsManyTimesAsThereAreQuarters() {
        for (int quarters : new int[] {1, 2, 39, 40}) {
            Trust x = let(10, 10, 1_000, quarters);
            waits(x, 91 * quarters - 1);
            isLet(x, 0, 0, 10, 10, 91 * quarters);
            has("on the last day of " + quarters, x, 10 * quarters, 1_010 - 10 * quarters);
            x.wait(1);
            isNotLet(x, 0);
            has("behind " + quarters, x, 10 * quarters, 1_020 - 10 * quarters);
            Due.is("lines", x.count(7), quarters);
        }
    }

    private static void part4TheLeaseEndsForOneWithoutMoney() {
        Trust x = let(10, 20, 0, 1);
        x.wait(91);
        isNotLet(x, 0);
        has("behind the lease", x, 10, 20);
        x.wait(1_000);
        has("long behind the lease", x, 10, 20);
        Due.is("lines", x.count(7), 1);
    }

    private static void part4FromTheDayOnWhichItIsLet() {
        Trust x = Made.farmers(100);
        x.bid(0, 0, 10, 10);
        x.wait(50);
        x.let(0, 2);
        isLet(x, 0, 0, 10, 10, 141);
        x.wait(90);
        has("on day 140", x, 10, 80);
        x.wait(1);
        has("on day 141", x, 20, 70);
    }

    private static void part4LetOnTheLastDay() {
        Trust x = Made.farmers(100);
        waits(x, 9_999);
        x.bid(0, 0, 10, 10);
        Due.is("let", x.let(0, 40), 0);
        isLet(x, 0, 0, 10, 10, 10_090);
        has("then", x, 10, 80);
    }

    private static void part4JustTheRent() {
        Trust x = let(10, 20, 10, 2);
        x.wait(91);
        isLet(x, 0, 0, 10, 20, 182);
        has("then", x, 20, 0);
    }

    private static void part4OneLessThanTheRent() {
        Trust x = let(10, 20, 9, 2);
        x.wait(90);
        isLet(x, 0, 0, 10, 20, 91);
        x.wait(1);
        isNotLet(x, 0);
        has("then", x, 10 + 20, 9);
        Due.is("lines", x.count(7), 2);
        Due.line(x, 1, 91, 2, 0, 20);
        x.wait(1_000);
        has("long behind", x, 30, 9);
    }

    private static void part4TheSuretyIsNoRentsMoney() {
        Trust x = let(10, 1_000, 0, 40);
        x.wait(91);
        isNotLet(x, 0);
        has("then", x, 1_010, 0);
    }

    private static void part4TheLastRentLacks() {
        Trust x = let(10, 10, 19, 3);
        x.wait(182);
        isNotLet(x, 0);
        has("then", x, 30, 9);
    }

    private static void part4TollsAreTheFarmersWhileItIsLet() {
        Trust x = letWithToll(10, 10, 0, 1);
        Due.is("toll", x.pass(0, 0), 5);
        has("on the first day", x, 10, 5);
        x.pass(0, 1);
        has("at another gate", x, 15, 5);
        x.wait(90);
        x.pass(0, 0);
        has("on the last day", x, 15, 10);
        x.wait(1);
        has("when it is over", x, 15, 20);
        x.pass(0, 0);
        has("behind it", x, 20, 20);
        Due.is("lines", x.count(7), 3);
    }

    private static void part4TollsAreTheBoxsAheadOfALet() {
        Trust x = Made.road("toll 5;");
        x.farmer(100);
        x.bid(0, 0, 10, 10);
        x.pass(0, 0);
        has("with a bid", x, 5, 100);
        x.let(0, 1);
        x.pass(0, 0);
        has("when it is let", x, 15, 85);
    }

    private static void part4TollsPayTheRent() {
        Trust x = letWithToll(10, 10, 0, 2);
        x.pass(0, 0);
        x.pass(0, 0);
        x.wait(91);
        isLet(x, 0, 0, 10, 10, 182);
        has("then", x, 20, 0);
        Trust y = letWithToll(10, 10, 4, 2);
        y.pass(0, 0);
        y.wait(91);
        isNotLet(y, 0);
        has("one less", y, 20, 9);
    }

    private static void part4GatesInOrder() {
        // The surety of gate 0 comes back ahead of gate 1's rent.
        Trust x = Made.farmers(60);
        x.bid(0, 0, 10, 20);
        x.bid(1, 0, 15, 15);
        x.let(1, 2);
        x.let(0, 1);
        has("at once", x, 25, 0);
        x.wait(91);
        isNotLet(x, 0);
        isLet(x, 1, 0, 15, 15, 182);
        has("then", x, 40, 5);
        // That of gate 1 comes back too late for gate 0's.
        Trust y = Made.farmers(60);
        y.bid(1, 0, 10, 20);
        y.bid(0, 0, 15, 15);
        y.let(1, 1);
        y.let(0, 2);
        y.wait(91);
        isNotLet(y, 0);
        isNotLet(y, 1);
        has("then", y, 25 + 15, 20);
    }

    private static void part4OfTwoRentsTheFirstGatesIsPaid() {
        Trust x = Made.farmers(50);
        x.bid(0, 0, 10, 10);
        x.bid(1, 0, 10, 10);
        x.let(1, 2);
        x.let(0, 2);
        x.wait(91);
        isNotLet(x, 1);
        isLet(x, 0, 0, 10, 10, 182);
        Due.line(x, 2, 91, 1, 0, 10);
        Due.line(x, 3, 91, 2, 1, 10);
    }

    private static void part4TwoFarmersAndTwoGatesAreApart() {
        Trust x = Made.farmers(100, 200);
        x.bid(0, 1, 10, 20);
        x.bid(1, 0, 30, 40);
        x.let(0, 1);
        x.wait(1);
        x.let(1, 2);
        has("then", x, 40, 30, 170);
        isLet(x, 0, 1, 10, 20, 91);
        isLet(x, 1, 0, 30, 40, 92);
        x.wait(90);
        isNotLet(x, 0);
        isLet(x, 1, 0, 30, 40, 92);
        x.wait(1);
        has("on day 92", x, 70, 0, 190);
    }

    private static void part4LetAgainBehindALease() {
        Trust x = let(10, 10, 100, 1);
        x.wait(91);
        x.bid(0, 0, 7, 8);
        Due.is("let", x.let(0, 3), 0);
        isLet(x, 0, 0, 7, 8, 182);
        has("then", x, 17, 95);
        x.wait(91);
        isLet(x, 0, 0, 7, 8, 273);
        x.wait(182);
        isNotLet(x, 0);
        has("behind it", x, 31, 89);
    }

    private static void part4LetAgainBehindALack() {
        Trust x = let(10, 20, 9, 40);
        x.wait(91);
        x.bid(0, 0, 4, 5);
        Due.is("let", x.let(0, 1), 0);
        has("then", x, 34, 0);
        x.wait(91);
        isNotLet(x, 0);
        has("behind it", x, 34, 5);
    }

    private static void part4AllEightGatesAreLet() {
        Trust x = new Trust();
        x.stretch(1);
        for (int i = 0; i < 8; i++) {
            x.gate(0);
            x.farmer(100);
            x.bid(i, i, 10 + i, 20);
        }
        for (int i = 0; i < 8; i++) {
            Due.is("let", x.let(i, 2), i);
        }
        x.wait(91);
        for (int i = 0; i < 8; i++) {
            Due.line(x, 8 + i, 91, 1, i, 10 + i);
        }
        x.wait(91);
        for (int i = 0; i < 8; i++) {
            isNotLet(x, i);
            Due.is("money of " + i, x.money(i), 100 - 2 * (10 + i));
        }
    }

    // Promise 18.

    private static void promise18NoSuchGate() {
        for (int gate : new int[] {-1, 3, 8, MIN, MAX}) {
            Due.refusesIndex("gate " + gate, Made::busy, x -> x.gateTold(gate, 0));
        }
        for (int gate : new int[] {0, -1, MIN, MAX}) {
            Due.refusesIndex("gate " + gate + " of none", Trust::new, x -> x.gateTold(gate, 0));
        }
    }

    private static void promise18AnotherWhat() {
        for (int what : new int[] {-1, 7, 8, MIN, MAX}) {
            Due.refusesArgument("what " + what, Made::busy, x -> x.gateTold(1, what));
        }
    }

    private static void promise18OfAGateThatIsNotLet() {
        Trust x = Made.farmers();
        long[] due = {0, NONE, 0, 0, 0, 0, 0};
        for (int what = 0; what <= 6; what++) {
            Due.is("what " + what, x.gateTold(1, what), due[what]);
        }
        x.farmer(0);
        x.bid(1, 0, 5, 6);
        due[5] = 1;
        for (int what = 0; what <= 6; what++) {
            Due.is("what " + what + " with a bid", x.gateTold(1, what), due[what]);
        }
    }

    private static void promise18OfAGateThatIsLet() {
        Trust x = Made.busy();
        long[] due = {1, 0, 100, 150, 92, 0, 1};
        for (int what = 0; what <= 6; what++) {
            Due.is("what " + what, x.gateTold(1, what), due[what]);
        }
    }

    private static void promise18TheDayOnWhichTheLeaseIsOver() {
        Trust x = let(10, 10, 100, 2);
        x.wait(91);
        Due.is("behind the last rent", x.gateTold(0, 4), 182);
        x.wait(90);
        Due.is("on the last day", x.gateTold(0, 4), 182);
        x.wait(1);
        Due.is("when it is over", x.gateTold(0, 4), 0);
        Due.is("of one quarter", let(10, 10, 0, 1).gateTold(0, 4), 91);
    }

    private static void promise18PassesOfAllDays() {
        Trust x = Made.road("free if gate = 1; toll 5;");
        Due.is("none yet", x.gateTold(0, 6), 0);
        x.pass(0, 0);
        x.pass(0, 0);
        x.pass(0, 1);
        x.asked(0, 0, 0);
        Due.index("a refused pass", () -> x.pass(1, 0));
        x.wait(400);
        Due.is("of gate 0", x.gateTold(0, 6), 2);
        Due.is("of gate 1", x.gateTold(1, 6), 1);
        x.farmer(100);
        x.bid(0, 0, 1, 1);
        x.let(0, 1);
        x.pass(0, 0);
        Due.is("of a gate that is let", x.gateTold(0, 6), 3);
    }

    private static void promise18OfTheLastGate() {
        Trust x = Made.full();
        long[] due = {4, NONE, 0, 0, 0, 10, 0};
        for (int what = 0; what <= 6; what++) {
            Due.is("what " + what, x.gateTold(7, what), due[what]);
        }
    }
}
