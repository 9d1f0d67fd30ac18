/** Each promise of the document: ordinary inputs, the edges that it names, and wrong inputs. */
public final class PromisesTest {
    private static final int NONE = TurnpikeTrust.NONE;
    private static final int MIN = Integer.MIN_VALUE;
    private static final int MAX = Integer.MAX_VALUE;

    private static final int COACH = 0;
    private static final int CART = 1;
    private static final int WAGON = 2;
    private static final int HORSE = 3;
    private static final int CATTLE = 4;
    private static final int SHEEP = 5;
    private static final int FOOT = 6;

    private PromisesTest() {
    }

    public static void main(String[] args) {
        promise01NewObject();
        promise02Feed();
        promise03Act();
        promise03Reading();
        promise04Fault();
        promise04FaultsOfNesting();
        promise05Stretch();
        promise06Gate();
        promise07Traveller();
        promise08Pass();
        promise08Conditions();
        promise08Times();
        promise08Once();
        promise09Clause();
        promise10Asked();
        promise11Force();
        promise12Wait();
        promise13Rain();
        promise14Mend();
        promise15Farmer();
        promise16Bid();
        promise17Let();
        promise17Lease();
        promise18GateTold();
        promise19Borrow();
        promise20Repay();
        promise21Loan();
        promise21Parting();
        promise22Money();
        promise23Wear();
        promise24Box();
        promise25Journal();
        promise26Count();
        Due.end("PromisesTest");
    }

    /** One stretch with two gates, on which an act is in force from day 0 on. */
    private static Trust with(String text) {
        Trust x = new Trust();
        x.stretch(10);
        x.gate(0);
        x.gate(0);
        Due.is("act " + text, x.tell(text, 0), 0);
        return x;
    }

    /** What a traveller would pay at gate 0 of one act alone. */
    private static int tollBy(String text, int kind, int wheels, int beasts, int bits) {
        Trust x = with(text);
        x.traveller(kind, wheels, beasts, bits);
        int asked = x.asked(0, 0, 0);
        Due.is(text + ": pass is as asked", x.pass(0, 0), asked);
        return asked;
    }

    private static void read(String text, int answer, int place) {
        Trust x = new Trust();
        Due.is("act [" + text + "]", x.tell(text, 0), answer);
        Due.is("fault of [" + text + "]", x.fault(), place);
        Due.is("acts behind [" + text + "]", x.count(1), answer < 0 ? 0 : 1);
        Due.is("tape behind [" + text + "]", x.count(8), 0);
    }

    private static void promise01NewObject() {
        Trust x = new Trust();
        for (int what = 0; what <= 9; what++) {
            Due.is("count(" + what + ") of a new object", x.count(what), 0);
        }
        Due.is("NONE", TurnpikeTrust.NONE, -1);
        Due.is("new box", x.box(0), 0);
        Due.is("new later box", x.box(9_999), 0);
        Due.is("new clause", x.clause(), NONE);
        Due.is("new fault", x.fault(), NONE);
        Due.is("new force", x.force(0), NONE);
        Due.is("new mend", x.mend(20), 0);
        Due.index("new journal", () -> x.journal(0, 0));
        Due.index("new money", () -> x.money(0));
        Due.index("new wear", () -> x.wear(0));
        Due.index("new loan", () -> x.loan(0, 0));
        Due.index("new gate", () -> x.gateTold(0, 0));
        Trust y = new Trust();
        x.stretch(1);
        Due.is("another object is apart", y.count(2), 0);
    }

    private static void promise02Feed() {
        Trust x = new Trust();
        // "free;" behind twelve blanks, then blanks: the highest byte of each number comes first.
        Due.is("first feed", x.feed(0x20202020, 0x20202020, 0x0A202020, 0x66726565, 0x3B202020), 20);
        Due.is("what was fed is read", x.act(20, 0), 0);
        for (int i = 1; i <= 100; i++) {
            Due.is("feed " + i, x.feed(MIN, MAX, -1, 0, 1), 20 * i);
        }
        Due.is("feed 101", x.feed(0, 0, 0, 0, 0), NONE);
        Due.is("tape behind feed 101", x.count(8), 2_000);
        Due.is("bytes above 127 are no signs", x.act(2_000, 0), -9);
        Due.is("feed behind act", x.feed(0, 0, 0, 0, 0), 20);
        Trust y = new Trust();
        for (int i = 0; i < 100; i++) {
            y.feed(0x20202020, 0x20202020, 0x20202020, 0x20202020, 0x20202020);
        }
        Due.is("feed of strange bytes", y.feed(0, 0, 0, 0, 0), NONE);
        Due.is("a refused feed did nothing", y.act(2_000, 0), 0);
    }

    private static void promise03Act() {
        Trust x = new Trust();
        Due.argument("act(1) of an empty tape", () -> x.act(1, 0));
        Due.argument("act(-1)", () -> x.act(-1, 0));
        Due.argument("act on day -1", () -> x.act(0, -1));
        Due.argument("act on day 10000", () -> x.act(0, 10_000));
        Due.argument("act(least, least)", () -> x.act(MIN, MIN));
        Due.argument("act(most, most)", () -> x.act(MAX, MAX));
        Due.is("an act of nothing", x.act(0, 9_999), 0);
        x.put("free;free;free;x");
        Due.argument("act(21) of 20", () -> x.act(21, 0));
        Due.is("a throw leaves the tape", x.count(8), 20);
        Due.is("the first bytes alone", x.act(15, 0), 1);
        Due.is("the tape is empty then", x.count(8), 0);
        Due.is("a fault", x.tell("free", 0), -9);
        for (int i = 2; i < 12; i++) {
            Due.is("act " + i, x.act(0, i), i);
        }
        x.put("free;");
        Due.argument("a 13th of a wrong day", () -> x.act(5, 10_000));
        Due.state("a 13th", () -> x.act(5, 0));
        Due.state("a 13th with a fault", () -> x.act(4, 0));
        Due.is("a 13th leaves the tape", x.count(8), 20);
        Due.is("acts", x.count(1), 12);
    }

    private static void promise03Reading() {
        read("", 0, NONE);
        read(" \n ", 0, NONE);
        read("free;", 0, NONE);
        read("free ; free if mail;", 0, NONE);
        read("toll12each if(mail)or church;", 0, NONE);
        read("toll 0 score;toll 1000000;", 0, NONE);
        read("toll 0000000000000000000000000012;", 0, NONE);
        read("times 0/1;times 1000000 / 1000000 if wheels<6;", 0, NONE);
        read("once;once all;once all if back;once if farm;", 0, NONE);
        read("free if not not army and(gate=1 or day>364);", 0, NONE);
        read("free if kind=coach or kind=cart or kind=wagon or kind=horse;", 0, NONE);
        read("free if kind=cattle or kind=sheep or kind=foot;", 0, NONE);
        read("free if wheels = 1 and beasts < 2 and gate > 3;", 0, NONE);
        read("free;".repeat(40), 0, NONE);
        StringBuilder longest = new StringBuilder("free if mail");
        while (longest.length() + 8 < 2_000) {
            longest.append(" or farm");
        }
        read(longest + ";", 0, NONE);
    }

    private static void promise04Fault() {
        read("toll", -9, 4);
        read("toll 5", -9, 6);
        read("toll 5  ", -9, 8);
        read("free", -9, 4);
        read(" Free;", -9, 1);
        read("fre;", -9, 0);
        read("frees;", -9, 0);
        read("freez;", -9, 0);
        read("{free;", -9, 0);
        read("`free;", -9, 0);
        read("toll 1:2;", -9, 6);
        read("free\t;", -9, 4);
        read("free;\0", -9, 5);
        read("free;\u00ff", -9, 5);
        read("free;;", -9, 5);
        read("free all;", -9, 5);
        read("free if;", -9, 7);
        read("free if mail mail;", -9, 13);
        read("free if mail or;", -9, 15);
        read("free if mail and or;", -9, 17);
        read("free if (mail;", -9, 13);
        read("free if mail);", -9, 12);
        read("free if ();", -9, 9);
        read("free if not;", -9, 11);
        read("free if coach;", -9, 8);
        read("free if kind coach;", -9, 13);
        read("free if kind < coach;", -9, 13);
        read("free if kind = 3;", -9, 15);
        read("free if kind = mail;", -9, 15);
        read("free if kind = score;", -9, 15);
        read("free if wheels 4;", -9, 15);
        read("free if wheels <= 4;", -9, 16);
        read("free if wheels ( 4;", -9, 15);
        read("free if wheels < mail;", -9, 17);
        read("free if mail = 1;", -9, 13);
        read("toll each;", -9, 5);
        read("toll 1 each score;", -9, 12);
        read("toll 1 all;", -9, 7);
        read("toll 1 2;", -9, 7);
        read("toll -1;", -9, 5);
        read("times 1;", -9, 7);
        read("times 1/;", -9, 8);
        read("times /1;", -9, 6);
        read("times 1/2 each;", -9, 10);
        read("once each;", -9, 5);
        read("if mail;", -9, 0);
        read("12;", -9, 0);
        read("toll 1000001;", -8, 5);
        read("toll 99999999999999999999999999", -8, 5);
        read("toll 4294967297;", -8, 5);
        read("toll 18446744073709551617;", -8, 5);
        read("times 1000001/1;", -8, 6);
        read("times 1/1000001;", -8, 8);
        read("times 1/0;", -8, 8);
        read("times 1/000;", -8, 8);
        read("free if day > 1000001;", -8, 14);
        read("toll 1 1000001;", -9, 7);
        read("free if 1000001;", -9, 8);
        read("free;".repeat(40) + "  free;", -7, 202);
        read("free;".repeat(40) + "once", -7, 200);
        read("free;".repeat(40) + "mail;", -9, 200);
        read("free;".repeat(39) + "toll 1000001;free;", -8, 200);
        Trust x = new Trust();
        x.tell("free !", 0);
        Due.is("fault stays", x.fault(), 5);
        Due.is("a good act", x.act(0, 0), 0);
        Due.is("fault of a good act", x.fault(), NONE);
        x.tell("!", 0);
        Due.is("fault at the first byte", x.fault(), 0);
    }

    private static void promise04FaultsOfNesting() {
        read("free if " + "(".repeat(10) + "mail" + ")".repeat(10) + ";", 0, NONE);
        read("free if " + "(".repeat(11) + "mail" + ")".repeat(11) + ";", -7, 18);
        read("free if " + "not ".repeat(10) + "mail;", 0, NONE);
        read("free if " + "not ".repeat(11) + "mail;", -7, 48);
        read("free if " + "not(".repeat(5) + "mail" + ")".repeat(5) + ";", 0, NONE);
        read("free if " + "not(".repeat(5) + "not mail" + ")".repeat(5) + ";", -7, 28);
        read("free if " + "(".repeat(9) + "not mail or not farm" + ")".repeat(9) + ";", 0, NONE);
        read("free if " + "(".repeat(9) + "not(mail)" + ")".repeat(9) + ";", -7, 20);
        read("free if not mail" + " or (not farm)".repeat(20) + ";", 0, NONE);
        read("free if " + "(".repeat(10) + "!", -9, 18);
        read("free if " + "(".repeat(10) + "mail(", -9, 22);
        read("free if " + "(".repeat(10), -9, 18);
    }

    private static void promise05Stretch() {
        Trust x = new Trust();
        Due.argument("price 0", () -> x.stretch(0));
        Due.argument("price 10001", () -> x.stretch(10_001));
        Due.argument("price least", () -> x.stretch(MIN));
        for (int i = 0; i < 12; i++) {
            Due.is("stretch " + i, x.stretch(i % 2 == 0 ? 1 : 10_000), i);
            Due.is("its wear", x.wear(i), 0);
        }
        Due.state("stretch 12", () -> x.stretch(1));
        Due.argument("stretch 12 of price 0", () -> x.stretch(0));
        Due.is("stretches", x.count(2), 12);
    }

    private static void promise06Gate() {
        Trust x = new Trust();
        Due.index("gate on no stretch", () -> x.gate(0));
        x.stretch(1);
        x.stretch(1);
        Due.index("gate on -1", () -> x.gate(-1));
        Due.index("gate on 2", () -> x.gate(2));
        for (int i = 0; i < 8; i++) {
            Due.is("gate " + i, x.gate(i % 2), i);
            Due.is("its stretch", x.gateTold(i, 0), i % 2);
        }
        Due.state("gate 8", () -> x.gate(0));
        Due.index("gate 8 on no stretch", () -> x.gate(2));
        Due.is("gates", x.count(3), 8);
    }

    private static void promise07Traveller() {
        Trust x = new Trust();
        int[][] wrong = {{-1, 0, 0, 0}, {7, 0, 0, 0}, {0, -1, 0, 0}, {0, 21, 0, 0}, {0, 0, -1, 0},
            {0, 0, 10_001, 0}, {0, 0, 0, -1}, {0, 0, 0, 16}, {MIN, MIN, MIN, MIN}, {MAX, MAX, MAX, MAX}};
        for (int[] w : wrong) {
            Due.argument("a wrong traveller", () -> x.traveller(w[0], w[1], w[2], w[3]));
        }
        Due.is("least traveller", x.traveller(0, 0, 0, 0), 0);
        Due.is("greatest traveller", x.traveller(6, 20, 10_000, 15), 1);
        for (int i = 2; i < 60; i++) {
            Due.is("traveller " + i, x.traveller(i % 7, 4, 4, 0), i);
        }
        Due.state("traveller 60", () -> x.traveller(0, 0, 0, 0));
        Due.argument("traveller 60 of kind 7", () -> x.traveller(7, 0, 0, 0));
        Due.is("travellers", x.count(4), 60);
    }

    private static void promise08Pass() {
        Trust x = with("free if kind = foot; toll 7;");
        x.traveller(CART, 4, 1, 0);
        x.traveller(FOOT, 0, 0, 0);
        Due.index("traveller 2", () -> x.pass(2, 0));
        Due.index("traveller -1", () -> x.pass(-1, 0));
        Due.index("gate 2", () -> x.pass(0, 2));
        Due.index("gate -1", () -> x.pass(0, -1));
        Due.is("nothing passed", x.gateTold(0, 6), 0);
        Due.is("cart", x.pass(0, 1), 7);
        Due.is("foot", x.pass(1, 1), 0);
        Due.is("passes of gate 1", x.gateTold(1, 6), 2);
        Due.is("passes of gate 0", x.gateTold(0, 6), 0);
        Due.is("box", x.box(0), 7);
        Due.is("a toll of 0 is not in the journal", x.count(7), 1);
        Trust y = new Trust();
        y.stretch(1);
        y.gate(0);
        y.traveller(HORSE, 0, 1, 0);
        Due.is("without an act", y.pass(0, 0), 0);
        Due.is("by none", y.clause(), NONE);
        Due.is("wear of a pass without an act", y.wear(0), 1);
        y.tell("toll 3;", 1);
        Due.is("ahead of the act's day", y.pass(0, 0), 0);
        y.wait(1);
        Due.is("from its day on", y.pass(0, 0), 3);
    }

    private static void promise08Conditions() {
        String[] words = {"mail", "army", "church", "farm"};
        for (int i = 0; i < 4; i++) {
            Due.is(words[i], tollBy("toll 5 if " + words[i] + ";", COACH, 4, 2, 1 << i), 5);
            Due.is("not " + words[i], tollBy("toll 5 if " + words[i] + ";", COACH, 4, 2, 15 - (1 << i)), 0);
        }
        String[] kinds = {"coach", "cart", "wagon", "horse", "cattle", "sheep", "foot"};
        for (int i = 0; i < 7; i++) {
            for (int k = 0; k < 7; k++) {
                Due.is(kinds[i], tollBy("toll 5 if kind = " + kinds[i] + ";", k, 4, 2, 0), i == k ? 5 : 0);
            }
        }
        String[] facts = {"wheels", "beasts"};
        for (String fact : facts) {
            for (int n = 3; n <= 5; n++) {
                Due.is(fact + " =", tollBy("toll 5 if " + fact + " = 4;", CART, n, n, 0), n == 4 ? 5 : 0);
                Due.is(fact + " <", tollBy("toll 5 if " + fact + " < 4;", CART, n, n, 0), n < 4 ? 5 : 0);
                Due.is(fact + " >", tollBy("toll 5 if " + fact + " > 4;", CART, n, n, 0), n > 4 ? 5 : 0);
            }
        }
        Due.is("wheels are not beasts", tollBy("toll 5 if wheels = 3 and beasts = 8;", CART, 3, 8, 0), 5);
        Due.is("and binds first", tollBy("toll 5 if mail or army and church;", CART, 4, 1, 1), 5);
        Due.is("and binds first, behind too", tollBy("toll 5 if army and church or mail;", CART, 4, 1, 1), 5);
        Due.is("brackets", tollBy("toll 5 if (mail or army) and church;", CART, 4, 1, 1), 0);
        Due.is("not binds one", tollBy("toll 5 if not army or mail;", CART, 4, 1, 3), 5);
        Due.is("not of brackets", tollBy("toll 5 if not (army or mail);", CART, 4, 1, 1), 0);
        Due.is("not not", tollBy("toll 5 if not not mail;", CART, 4, 1, 1), 5);
        Due.is("or of three", tollBy("toll 5 if army or church or mail;", CART, 4, 1, 1), 5);
        Due.is("many wait at once", tollBy("toll 5 if farm or mail and (farm or mail and (farm or mail and not farm));", CART, 4, 1, 1), 5);
        Due.is("many wait in vain", tollBy("toll 5 if farm or mail and (farm or mail and (farm or mail and farm));", CART, 4, 1, 1), 0);
        Due.is("and of three", tollBy("toll 5 if mail and church and army;", CART, 4, 1, 5), 0);
        Trust x = with("toll 1 if gate = 1 and not back; toll 2 if gate = 0 and back; toll 4 if day > 363;");
        x.traveller(CART, 4, 1, 0);
        x.traveller(CART, 4, 1, 0);
        Due.is("gate 1", x.pass(0, 1), 1);
        Due.is("gate 1 back", x.pass(0, 1), 0);
        Due.is("gate 0", x.pass(0, 0), 0);
        Due.is("gate 0 back", x.pass(0, 0), 2);
        Due.is("back is of one traveller", x.pass(1, 0), 0);
        x.wait(364);
        Due.is("back is of one day; day 364", x.pass(0, 0), 4);
        x.wait(1);
        Due.is("day 365 is 0", x.pass(0, 0), 0);
    }

    private static void promise08Times() {
        Due.is("each", tollBy("toll 3 each;", CATTLE, 0, 7, 0), 21);
        Due.is("each of none", tollBy("toll 3 each;", CATTLE, 0, 0, 0), 0);
        int[][] scores = {{0, 0}, {1, 1}, {20, 1}, {21, 2}, {40, 2}, {41, 3}, {10_000, 500}};
        for (int[] s : scores) {
            Due.is("score of " + s[0], tollBy("toll 7 score;", SHEEP, 0, s[0], 0), 7 * s[1]);
        }
        Due.is("the most", tollBy("toll 1000000 each;", SHEEP, 0, 10_000, 0), 1_000_000);
        Due.is("the most ahead of times", tollBy("times 1/2; toll 1000000 each;", SHEEP, 0, 2, 0), 500_000);
        Due.is("the most of each times", tollBy("times 1000000/1;times 1/10; toll 1000;", CART, 4, 0, 0), 100_000);
        Due.is("cut each time", tollBy("times 1/2;times 1/2;times 4/1; toll 7;", CART, 4, 0, 0), 4);
        Due.is("in order", tollBy("times 3/1;times 1/2; toll 5;", CART, 4, 0, 0), 7);
        Due.is("in another order", tollBy("times 1/2;times 3/1; toll 5;", CART, 4, 0, 0), 6);
        Due.is("those that hold alone", tollBy("times 2/1 if mail;times 3/1 if farm; toll 5;", CART, 4, 0, 8), 15);
        Due.is("ahead of the toll alone", tollBy("toll 5;times 2/1;", CART, 4, 0, 0), 5);
        Due.is("times 0", tollBy("times 0/5; toll 5;", CART, 4, 0, 0), 0);
        Due.is("times of the most", tollBy("times 1000000/1000000; toll 1000000;", CART, 4, 0, 0), 1_000_000);
        Due.is("times alone", tollBy("times 2/1;", CART, 4, 0, 0), 0);
        Due.is("the first toll", tollBy("toll 5 if mail; toll 6; toll 7;", CART, 4, 0, 0), 6);
        Due.is("free ahead", tollBy("free; toll 6;", CART, 4, 0, 0), 0);
        Due.is("free behind", tollBy("toll 6; free;", CART, 4, 0, 0), 6);
    }

    private static void paid(Trust x, int gate, int toll, int clause) {
        Due.is("toll at gate " + gate, x.pass(0, gate), toll);
        Due.is("clause at gate " + gate, x.clause(), clause);
    }

    private static void promise08Once() {
        Trust x = with("once; toll 5;");
        x.traveller(CART, 4, 1, 0);
        paid(x, 0, 5, 1);
        paid(x, 0, 0, 0);
        paid(x, 0, 0, 0);
        paid(x, 1, 5, 1);
        x.wait(1);
        paid(x, 0, 5, 1);
        x = with("once all; toll 1;");
        x.traveller(CART, 4, 1, 0);
        paid(x, 0, 1, 1);
        paid(x, 1, 0, 0);
        paid(x, 0, 0, 0);
        x = with("once all; once; toll 5;");
        x.traveller(CART, 4, 1, 0);
        paid(x, 0, 5, 2);
        paid(x, 0, 0, 0);
        paid(x, 1, 0, 0);
        x = with("once; once all; once; once all; toll 5;");
        x.traveller(CART, 4, 1, 0);
        paid(x, 0, 5, 4);
        paid(x, 0, 0, 0);
        paid(x, 1, 0, 1);
        x = with("once if mail; once; toll 5;");
        x.traveller(CART, 4, 1, 0);
        paid(x, 0, 5, 2);
        paid(x, 0, 0, 1);
        x = with("toll 0 if not back; once; toll 5;");
        x.traveller(CART, 4, 1, 0);
        paid(x, 0, 0, 0);
        paid(x, 0, 5, 2);
        paid(x, 0, 0, 1);
        x = with("toll 5; once;");
        x.traveller(CART, 4, 1, 0);
        paid(x, 0, 5, 0);
        paid(x, 0, 5, 0);
        x = with("once; toll 5 if not back; free if wheels = 4 and gate = 7; toll 0;");
        x.traveller(CART, 4, 1, 0);
        paid(x, 0, 5, 1);
        paid(x, 0, 0, 0);
        x = with("once; toll 5;");
        x.traveller(CART, 4, 1, 0);
        x.farmer(100);
        x.bid(0, 0, 1, 1);
        x.let(0, 1);
        paid(x, 0, 5, 1);
        paid(x, 0, 0, 0);
    }

    private static void promise09Clause() {
        Trust x = with("free if mail; times 2/1; toll 5 if farm;");
        x.traveller(CART, 4, 1, 1);
        x.traveller(CART, 4, 1, 8);
        x.traveller(CART, 4, 1, 0);
        Due.is("ahead of any pass", x.clause(), NONE);
        x.asked(0, 0, 0);
        Due.is("asked is no pass", x.clause(), NONE);
        x.pass(0, 0);
        Due.is("free", x.clause(), 0);
        x.pass(1, 0);
        Due.is("toll", x.clause(), 2);
        Due.index("a wrong pass", () -> x.pass(9, 0));
        Due.is("a wrong pass changes nothing", x.clause(), 2);
        x.pass(2, 0);
        Due.is("none", x.clause(), NONE);
    }

    private static void promise10Asked() {
        Trust x = with("once; toll 5;");
        Due.is("a later act", x.tell("toll 9 if back; toll 4;", 50), 1);
        x.traveller(WAGON, 4, 1, 0);
        Due.index("act 2", () -> x.asked(2, 0, 0));
        Due.index("act -1", () -> x.asked(-1, 0, 0));
        Due.index("traveller 1", () -> x.asked(0, 1, 0));
        Due.index("traveller -1", () -> x.asked(0, -1, 0));
        Due.index("gate 2", () -> x.asked(0, 0, 2));
        Due.index("gate -1", () -> x.asked(0, 0, -1));
        Due.is("in force", x.asked(0, 0, 0), 5);
        Due.is("in force again", x.asked(0, 0, 0), 5);
        Due.is("not in force", x.asked(1, 0, 0), 4);
        Due.is("no wear", x.wear(0), 0);
        Due.is("no passes", x.gateTold(0, 6), 0);
        Due.is("no money", x.box(0), 0);
        x.pass(0, 0);
        Due.is("once by asked", x.asked(0, 0, 0), 0);
        Due.is("once elsewhere", x.asked(0, 0, 1), 5);
        Due.is("back by asked", x.asked(1, 0, 0), 9);
        Due.is("a third act", x.tell("once all; times 9/1;", 50), 2);
        Due.is("which asks for nothing", x.asked(2, 0, 0), 0);
        Due.is("and leaves nothing to the next", x.asked(1, 0, 0), 9);
    }

    private static void promise11Force() {
        Trust x = new Trust();
        Due.argument("day -1", () -> x.force(-1));
        Due.argument("day 10000", () -> x.force(10_000));
        x.act(0, 10);
        x.act(0, 5);
        x.act(0, 10);
        x.act(0, 7);
        int[][] due = {{0, NONE}, {4, NONE}, {5, 1}, {6, 1}, {7, 3}, {9, 3}, {10, 2}, {9_999, 2}};
        for (int[] d : due) {
            Due.is("force of " + d[0], x.force(d[0]), d[1]);
        }
        x.wait(20);
        x.act(0, 8);
        Due.is("told later for earlier", x.force(9), 4);
        Due.is("of the greatest day", x.force(20), 2);
        x.act(0, 9_999);
        Due.is("the last day", x.force(9_999), 5);
        Due.is("the last day but one", x.force(9_998), 2);
    }

    private static void promise12Wait() {
        Trust x = new Trust();
        Due.argument("wait -1", () -> x.wait(-1));
        Due.argument("wait 1001", () -> x.wait(1_001));
        Due.argument("wait most", () -> x.wait(MAX));
        Due.argument("wait least", () -> x.wait(MIN));
        Due.is("wait 0", x.wait(0), 0);
        for (int i = 1; i <= 9; i++) {
            Due.is("wait 1000", x.wait(1_000), 1_000 * i);
        }
        Due.argument("above the last day", () -> x.wait(1_000));
        Due.is("a throw leaves the day", x.count(0), 9_000);
        Due.is("to the last day", x.wait(999), 9_999);
        Due.is("none more", x.wait(0), 9_999);
        Due.argument("one more", () -> x.wait(1));
    }

    private static String rain(Trust x, int days) {
        return Due.outcome(() -> {
            x.rain(days);
            return 0;
        });
    }

    private static void promise13Rain() {
        Trust x = with("");
        x.traveller(WAGON, 6, 1, 0);
        Due.same("rain -1", rain(x, -1), "throws.IllegalArgumentException");
        Due.same("rain 1001", rain(x, 1_001), "throws.IllegalArgumentException");
        Due.same("rain 1000", rain(x, 1_000), "0");
        Due.is("rains 1000", x.count(9), 1_000);
        Due.same("rain 2", rain(x, 2), "0");
        Due.is("whatever was told", x.count(9), 2);
        x.pass(0, 0);
        Due.is("in rain", x.wear(0), 20);
        x.wait(1);
        Due.is("one day left", x.count(9), 1);
        x.pass(0, 0);
        Due.is("in its last day", x.wear(0), 40);
        x.wait(1);
        Due.is("no day left", x.count(9), 0);
        x.pass(0, 0);
        Due.is("behind the rain", x.wear(0), 50);
        x.wait(5);
        Due.is("long behind", x.count(9), 0);
        x.rain(3);
        x.rain(0);
        Due.is("no more", x.count(9), 0);
        x.pass(0, 0);
        Due.is("dry", x.wear(0), 60);
    }

    /** Stretches of given prices and wear, and a box. */
    private static Trust roads(int money, int... pricesAndWear) {
        Trust x = new Trust();
        for (int i = 0; i < pricesAndWear.length; i += 2) {
            x.stretch(pricesAndWear[i]);
            x.gate(i / 2);
            x.traveller(CATTLE, 0, pricesAndWear[i + 1], 0);
            x.pass(i / 2, i / 2);
        }
        if (money > 0) {
            x.borrow(money, 0, 0);
        }
        return x;
    }

    private static void promise14Mend() {
        Trust x = roads(1_000, 10, 120);
        Due.argument("mend -1", () -> x.mend(-1));
        Due.argument("mend 21", () -> x.mend(21));
        Due.is("mend 0", x.mend(0), 0);
        Due.is("mend 1", x.mend(1), 1);
        Due.is("50 off", x.wear(0), 70);
        Due.is("its price", x.box(0), 990);
        Due.is("mend all", x.mend(20), 2);
        Due.is("what there was", x.wear(0), 0);
        Due.is("nothing more", x.mend(20), 0);
        Due.is("box", x.box(0), 970);
        // 50/30 against 40/25: both are 1 when cut, but 5/3 is more than 8/5.
        Trust y = roads(1_000, 25, 40, 30, 50);
        Due.is("by the exact quotient", y.mend(1), 1);
        Due.is("the greater is mended", y.wear(1), 0);
        Due.is("the lesser is not", y.wear(0), 40);
        Trust z = roads(1_000, 30, 50, 15, 25, 30, 500);
        Due.is("alike ones", z.mend(1), 1);
        Due.is("the first of them", z.wear(0), 0);
        Due.is("alike again", z.mend(1), 1);
        Due.is("the next of them", z.wear(1), 0);
        Due.is("and the last", z.mend(2), 2);
        Due.is("its wear", z.wear(2), 400);
        Due.is("line of a load", z.journal(3, 2), 2);
        Due.is("one line each", z.count(7), 5);
        Trust poor = roads(30, 20, 100, 3, 1);
        Due.is("as long as the box has it", poor.mend(20), 1);
        Due.is("it ends, though a cheap one is left", poor.wear(1), 1);
        Due.is("what the box has yet", poor.box(0), 10);
        Trust dear = roads(10, 10, 60);
        Due.is("the box has just the price", dear.mend(20), 1);
        Due.is("no more in it", dear.box(0), 0);
        Due.is("an empty box", dear.mend(20), 0);
        Due.is("twenty", roads(1_000, 1, 5_000).mend(20), 20);
    }

    private static void promise15Farmer() {
        Trust x = new Trust();
        Due.argument("money -1", () -> x.farmer(-1));
        Due.argument("money above", () -> x.farmer(1_000_000_001));
        for (int i = 0; i < 8; i++) {
            Due.is("farmer " + i, x.farmer(i % 2 * 1_000_000_000), i);
            Due.is("money " + i, x.money(i), i % 2 * 1_000_000_000);
        }
        Due.state("farmer 8", () -> x.farmer(0));
        Due.argument("farmer 8 of -1", () -> x.farmer(-1));
        Due.is("farmers", x.count(5), 8);
    }

    private static void promise16Bid() {
        Trust x = with("");
        x.farmer(0);
        Due.index("gate 2", () -> x.bid(2, 0, 1, 1));
        Due.index("gate -1", () -> x.bid(-1, 0, 0, 0));
        Due.index("farmer 1", () -> x.bid(0, 1, 1, 1));
        Due.index("farmer -1", () -> x.bid(0, -1, 0, 0));
        Due.argument("rent 0", () -> x.bid(0, 0, 0, 1));
        Due.argument("surety 0", () -> x.bid(0, 0, 1, 0));
        Due.argument("rent above", () -> x.bid(0, 0, 10_000_001, 1));
        Due.argument("surety above", () -> x.bid(0, 0, 1, 10_000_001));
        for (int i = 1; i <= 10; i++) {
            Due.is("bid " + i, x.bid(0, 0, 10_000_000, 10_000_000), i);
            Due.is("bids told", x.gateTold(0, 5), i);
        }
        Due.state("bid 11", () -> x.bid(0, 0, 1, 1));
        Due.argument("bid 11 of rent 0", () -> x.bid(0, 0, 0, 1));
        Due.is("another gate", x.bid(1, 0, 1, 1), 1);
        x.farmer(2);
        x.bid(1, 1, 1, 1);
        Due.is("let", x.let(1, 1), 1);
        Due.state("it is let", () -> x.bid(1, 0, 1, 1));
        Due.index("it is let, and no such farmer", () -> x.bid(1, 2, 1, 1));
    }

    private static void promise17Let() {
        Trust x = with("");
        Due.index("gate 2", () -> x.let(2, 1));
        Due.index("gate -1 for 0", () -> x.let(-1, 0));
        Due.argument("0 quarters", () -> x.let(0, 0));
        Due.argument("41 quarters", () -> x.let(0, 41));
        Due.is("no bids", x.let(0, 1), NONE);
        x.farmer(100);
        x.farmer(1_000);
        x.farmer(1_000);
        x.bid(0, 1, 51, 50);
        x.bid(0, 0, 51, 51);
        x.bid(0, 0, 50, 51);
        Due.is("none will do", x.let(0, 1), NONE);
        Due.is("the bids stay", x.gateTold(0, 5), 3);
        x.bid(0, 0, 50, 50);
        Due.is("just enough", x.let(0, 40), 0);
        Due.is("the bids are gone", x.gateTold(0, 5), 0);
        Due.is("money", x.money(0), 0);
        Due.is("box", x.box(0), 50);
        Due.state("it is let", () -> x.let(0, 1));
        Due.argument("it is let, and 41", () -> x.let(0, 41));
        x.bid(1, 2, 60, 60);
        x.bid(1, 1, 70, 71);
        x.bid(1, 2, 70, 70);
        x.bid(1, 2, 69, 900);
        Due.is("the greatest rent, the first of these", x.let(1, 1), 1);
        Due.is("its surety", x.gateTold(1, 3), 71);
        Due.is("its money", x.money(1), 859);
        Due.is("another's money", x.money(2), 1_000);
    }

    private static void promise17Lease() {
        Trust x = with("toll 5;");
        x.traveller(CART, 4, 1, 0);
        x.farmer(1_000);
        x.bid(0, 0, 100, 200);
        x.let(0, 3);
        Due.is("surety and rent", x.money(0), 700);
        x.pass(0, 0);
        Due.is("the farmer's toll", x.money(0), 705);
        Due.is("is not the box's", x.box(0), 100);
        x.pass(0, 1);
        Due.is("another gate's toll", x.box(0), 105);
        x.wait(90);
        Due.is("ahead of the second quarter", x.money(0), 705);
        x.wait(1);
        Due.is("the second quarter", x.money(0), 605);
        x.wait(91);
        Due.is("the third quarter", x.money(0), 505);
        x.wait(90);
        Due.is("still let", x.gateTold(0, 1), 0);
        x.wait(1);
        Due.is("over", x.gateTold(0, 1), NONE);
        Due.is("the surety is back", x.money(0), 705);
        Due.is("three rents", x.box(9_999), 305);
        x.pass(0, 0);
        Due.is("the box's toll again", x.box(9_999), 310);
        Trust y = with("");
        y.farmer(50);
        y.bid(0, 0, 20, 25);
        y.bid(1, 0, 2, 2);
        y.let(0, 5);
        Due.is("both lets", y.let(1, 1), 0);
        Due.is("what is left", y.money(0), 1);
        y.wait(91);
        Due.is("too little for the rent", y.gateTold(0, 1), NONE);
        Due.is("then gate 1 is over", y.money(0), 3);
        Due.is("rents and surety", y.box(91), 47);
        Due.is("the surety's line", y.journal(2, 1), 2);
        Due.is("its gate", y.journal(2, 2), 0);
        Due.is("its sum", y.journal(2, 3), 25);
        Due.is("its day", y.journal(2, 0), 91);
        Due.is("bids are taken again", y.bid(0, 0, 1, 1), 1);
        Due.is("let again", y.let(0, 1), 0);
        y.wait(91);
        Due.is("over again", y.money(0), 2);
        // The surety of gate 0 comes back in time for the rent of gate 1, not the other way round.
        Trust z = with("");
        z.farmer(60);
        z.bid(0, 0, 10, 20);
        z.bid(1, 0, 15, 15);
        z.let(0, 1);
        z.let(1, 2);
        Due.is("nothing is left", z.money(0), 0);
        z.wait(91);
        Due.is("gates in order", z.gateTold(1, 1), 0);
        Due.is("gate 0's surety less gate 1's rent", z.money(0), 5);
    }

    private static void promise18GateTold() {
        Trust x = with("");
        x.farmer(0);
        x.farmer(1_000);
        x.traveller(FOOT, 0, 0, 0);
        Due.index("gate 2", () -> x.gateTold(2, 0));
        Due.index("gate -1 and what 7", () -> x.gateTold(-1, 7));
        Due.argument("what 7", () -> x.gateTold(0, 7));
        Due.argument("what -1", () -> x.gateTold(0, -1));
        long[] free = {0, NONE, 0, 0, 0, 0, 0};
        for (int what = 0; what < 7; what++) {
            Due.is("told " + what, x.gateTold(1, what), free[what]);
        }
        x.wait(10);
        x.bid(1, 1, 30, 40);
        Due.is("bids", x.gateTold(1, 5), 1);
        x.let(1, 2);
        x.pass(0, 1);
        long[] let = {0, 1, 30, 40, 101, 0, 1};
        for (int what = 0; what < 7; what++) {
            Due.is("told " + what + " of let", x.gateTold(1, what), let[what]);
        }
        x.wait(91);
        Due.is("the lease's end", x.gateTold(1, 4), 192);
        x.wait(91);
        free[6] = 1;
        for (int what = 0; what < 7; what++) {
            Due.is("told " + what + " of over", x.gateTold(1, what), free[what]);
        }
        Due.is("the other gate", x.gateTold(0, 6), 0);
    }

    private static void promise19Borrow() {
        Trust x = new Trust();
        int[][] wrong = {{0, 0, 0}, {10_000_001, 0, 0}, {1, -1, 0}, {1, 501, 0}, {1, 0, -1}, {1, 0, 4}, {MIN, MIN, MIN}};
        for (int[] w : wrong) {
            Due.argument("a wrong loan", () -> x.borrow(w[0], w[1], w[2]));
        }
        Due.is("no loan", x.count(6), 0);
        Due.is("least", x.borrow(1, 0, 0), 0);
        Due.is("greatest", x.borrow(10_000_000, 500, 3), 1);
        Due.is("box", x.box(0), 10_000_001);
        for (int i = 2; i < 10; i++) {
            Due.is("loan " + i, x.borrow(5, 5, 1), i);
        }
        Due.state("loan 10", () -> x.borrow(1, 0, 0));
        Due.argument("loan 10 of 0", () -> x.borrow(0, 0, 0));
        Due.is("loans", x.count(6), 10);
        Due.is("lines", x.count(7), 10);
    }

    private static void promise20Repay() {
        Trust x = roads(1_000, 700, 50);
        x.borrow(500, 10, 0);
        Due.index("loan 2", () -> x.repay(2, 1));
        Due.index("loan -1 of 0", () -> x.repay(-1, 0));
        Due.argument("sum 0", () -> x.repay(0, 0));
        Due.argument("sum least", () -> x.repay(0, MIN));
        Due.is("more than the loan", x.repay(1, 501), NONE);
        Due.is("most", x.repay(1, MAX), NONE);
        Due.is("a part", x.repay(1, 100), 400);
        Due.is("box", x.box(0), 1_400);
        x.mend(1);
        Due.is("more than the box", x.repay(0, 701), NONE);
        Due.is("nothing is paid", x.loan(0, 0), 1_000);
        Due.is("all of the box", x.repay(0, 700), 300);
        Due.is("an empty box", x.repay(1, 1), NONE);
        Due.is("box is empty", x.box(0), 0);
        Trust y = new Trust();
        y.borrow(100, 500, 2);
        Due.is("all of it", y.repay(0, 100), 0);
        Due.is("no sum is left", y.loan(0, 0), 0);
        Due.is("it is still there", y.count(6), 1);
        Due.is("one more", y.repay(0, 1), NONE);
        y.borrow(1_000, 0, 0);
        y.wait(365);
        Due.is("nothing is due of it", y.box(365), 1_000);
    }

    private static void promise21Loan() {
        Trust x = roads(7, 7, 1);
        x.mend(1);
        x.borrow(1_999, 100, 3);
        Due.index("loan 2", () -> x.loan(2, 0));
        Due.index("loan -1 and what 4", () -> x.loan(-1, 4));
        Due.argument("what 4", () -> x.loan(0, 4));
        Due.argument("what -1", () -> x.loan(0, -1));
        long[] due = {1_999, 100, 3, 0};
        for (int what = 0; what < 4; what++) {
            Due.is("told " + what, x.loan(1, what), due[what]);
        }
        x.wait(364);
        Due.is("ahead of the year's end", x.box(364), 1_999);
        x.wait(1);
        Due.is("interest, cut", x.box(365), 1_999 - 199);
        Due.is("nothing is due", x.loan(1, 3), 0);
        x.repay(1, 1_000);
        x.wait(365);
        Due.is("interest of what is left", x.box(730), 800 - 99);
        x.repay(1, 701);
        x.wait(365);
        Due.is("due of an empty box", x.loan(1, 3), 29);
        Due.is("no line of nothing", x.count(7), 7);
        x.wait(365);
        Due.is("due grows", x.loan(1, 3), 58);
        x.borrow(100, 0, 0);
        x.wait(365);
        Due.is("due is paid", x.loan(1, 3), 0);
        Due.is("box behind it", x.box(9_999), 100 - 87);
    }

    private static void partingOf(int box, int[] sums, int[] ranks, long[] paid) {
        Trust x = new Trust();
        x.stretch(1);
        x.gate(0);
        int all = 0;
        for (int i = 0; i < sums.length; i++) {
            x.borrow(sums[i] * 2, 500, ranks[i]);
            all += sums[i] * 2;
        }
        int left = all - box;
        x.traveller(CATTLE, 0, 10_000, 0);
        for (int i = 0; i <= left / 200; i++) {
            x.pass(0, 0);
        }
        for (; left > 0; left -= Math.min(left, 20)) {
            x.mend(Math.min(left, 20));
        }
        int lines = x.count(7);
        Due.is("box of the parting", x.box(0), box);
        x.wait(365);
        long rest = box;
        for (int rank = 0; rank < 4; rank++) {
            for (int i = 0; i < sums.length; i++) {
                if (ranks[i] == rank && paid[i] > 0) {
                    Due.is("line's kind", x.journal(lines, 1), 4);
                    Due.is("line's loan", x.journal(lines, 2), i);
                    Due.is("line's sum", x.journal(lines, 3), -paid[i]);
                    lines++;
                }
            }
        }
        for (int i = 0; i < sums.length; i++) {
            Due.is("due of loan " + i, x.loan(i, 3), sums[i] - paid[i]);
            rest -= paid[i];
        }
        Due.is("no other lines", x.count(7), lines);
        Due.is("box behind the parting", x.box(365), rest);
    }

    private static void promise21Parting() {
        partingOf(60, new int[] {10, 20, 30}, new int[] {0, 0, 0}, new long[] {10, 20, 30});
        partingOf(65, new int[] {10, 20, 30}, new int[] {2, 1, 0}, new long[] {10, 20, 30});
        partingOf(45, new int[] {10, 20, 30}, new int[] {2, 1, 0}, new long[] {0, 15, 30});
        partingOf(10, new int[] {10, 20, 30}, new int[] {3, 0, 3}, new long[] {0, 10, 0});
        // 25 parted by 10, 20, 30: 4 1/6, 8 2/6, 12 3/6: the one left goes to the last.
        partingOf(25, new int[] {10, 20, 30}, new int[] {0, 0, 0}, new long[] {4, 8, 13});
        // 50 parted: 8 2/6, 16 4/6, 25: the one left goes to the middle.
        partingOf(50, new int[] {10, 20, 30}, new int[] {1, 1, 1}, new long[] {8, 17, 25});
        // Alike rests: 2 parted by 3 alike ones, and by 4.
        partingOf(2, new int[] {5, 5, 5}, new int[] {0, 0, 0}, new long[] {1, 1, 0});
        partingOf(7, new int[] {5, 5, 5, 5}, new int[] {0, 0, 0, 0}, new long[] {2, 2, 2, 1});
        // Two ranks, the second one lacking: 11 to rank 1, then 9 by 7 and 8: 4 3/15, 4 12/15.
        partingOf(20, new int[] {7, 11, 8}, new int[] {2, 1, 2}, new long[] {4, 11, 5});
        partingOf(1, new int[] {1, 1}, new int[] {3, 3}, new long[] {1, 0});
        partingOf(0, new int[] {5, 5}, new int[] {0, 1}, new long[] {0, 0});
        Trust x = new Trust();
        x.stretch(1);
        x.gate(0);
        x.farmer(100_000);
        x.borrow(1, 0, 0);
        x.repay(0, 1);
        x.borrow(1_000, 500, 0);
        x.repay(1, 1);
        x.wait(1);
        x.bid(0, 0, 10, 10);
        x.let(0, 5);
        x.wait(364);
        // Day 365 is rent's day as well: the interest goes first, the rent comes behind it.
        Due.is("first 5, then 4", x.journal(x.count(7) - 1, 1), 1);
        Due.is("interest ahead", x.journal(x.count(7) - 2, 1), 4);
    }

    private static void promise22Money() {
        Trust x = with("toll 1000000;");
        x.farmer(5);
        x.farmer(1_000_000_000);
        x.traveller(COACH, 4, 4, 0);
        Due.index("farmer 2", () -> x.money(2));
        Due.index("farmer -1", () -> x.money(-1));
        Due.is("farmer 0", x.money(0), 5);
        x.bid(0, 1, 10, 10);
        x.let(0, 1);
        Due.is("less surety and rent", x.money(1), 999_999_980);
        x.pass(0, 0);
        Due.is("with a toll", x.money(1), 1_000_999_980);
        Due.is("a toll of the farmer is in no line", x.count(7), 1);
    }

    private static void promise23Wear() {
        int[][] due = {{COACH, 6, 9, 6}, {COACH, 5, 9, 12}, {CART, 6, 9, 4}, {CART, 5, 9, 8}, {WAGON, 6, 9, 10},
            {WAGON, 0, 9, 20}, {HORSE, 0, 9, 1}, {CATTLE, 0, 9, 9}, {CATTLE, 20, 0, 0}, {SHEEP, 0, 9, 2},
            {SHEEP, 4, 3, 0}, {SHEEP, 0, 10_000, 2_500}, {FOOT, 0, 9, 0}};
        for (int[] d : due) {
            Trust x = with("");
            x.stretch(1);
            x.traveller(d[0], d[1], d[2], 0);
            x.pass(0, 1);
            Due.is("wear by " + d[0], x.wear(0), d[3]);
            x.rain(1);
            x.pass(0, 1);
            Due.is("wear in rain by " + d[0], x.wear(0), 3 * d[3]);
            Due.is("another stretch", x.wear(1), 0);
            Due.index("stretch 2", () -> x.wear(2));
            Due.index("stretch -1", () -> x.wear(-1));
        }
    }

    private static void promise24Box() {
        Trust x = new Trust();
        Due.argument("day -1", () -> x.box(-1));
        Due.argument("day 10000", () -> x.box(10_000));
        Trust y = with("toll 1;");
        y.traveller(CART, 4, 1, 0);
        y.pass(0, 0);
        y.wait(2);
        Due.is("by one line", y.box(1), 1);
        x.wait(2);
        x.borrow(100, 0, 0);
        Due.is("ahead of all", x.box(1), 0);
        Due.is("today", x.box(2), 100);
        Due.is("later", x.box(3), 100);
        Due.is("the last", x.box(9_999), 100);
        x.repay(0, 30);
        Due.is("today by now", x.box(2), 70);
        x.wait(2);
        x.borrow(5, 0, 0);
        x.wait(1);
        long[] due = {0, 0, 70, 70, 75, 75, 75};
        for (int day = 0; day < due.length; day++) {
            Due.is("box of " + day, x.box(day), due[day]);
        }
    }

    private static void promise25Journal() {
        Trust x = new Trust();
        x.stretch(1);
        x.stretch(3);
        x.gate(1);
        x.gate(1);
        x.tell("toll 8 if not farm;", 0);
        x.traveller(FOOT, 0, 0, 8);
        x.traveller(CART, 4, 1, 0);
        x.farmer(0);
        x.farmer(500);
        x.pass(0, 1);
        x.pass(1, 1);
        x.wait(3);
        x.bid(1, 1, 90, 400);
        x.let(1, 2);
        x.borrow(50, 0, 3);
        x.borrow(1_000, 100, 2);
        x.repay(1, 20);
        x.mend(20);
        x.wait(91);
        x.wait(271);
        Due.line(x, 0, 0, 0, 1, 8);
        Due.line(x, 1, 3, 1, 1, 90);
        Due.line(x, 2, 3, 3, 0, 50);
        Due.line(x, 3, 3, 3, 1, 1_000);
        Due.line(x, 4, 3, 5, 1, -20);
        Due.line(x, 5, 3, 6, 1, -3);
        Due.line(x, 6, 94, 2, 1, 400);
        Due.line(x, 7, 365, 4, 1, -98);
        Due.is("lines", x.count(7), 8);
        Due.index("line 8", () -> x.journal(8, 0));
        Due.index("line -1 and what 4", () -> x.journal(-1, 4));
        Due.argument("what 4", () -> x.journal(0, 4));
        Due.argument("what -1", () -> x.journal(0, -1));
    }

    private static void promise26Count() {
        Trust x = new Trust();
        x.wait(11);
        x.act(0, 0);
        for (int i = 0; i < 2; i++) {
            x.stretch(5);
        }
        for (int i = 0; i < 3; i++) {
            x.gate(0);
        }
        for (int i = 0; i < 4; i++) {
            x.traveller(0, 0, 0, 0);
        }
        for (int i = 0; i < 5; i++) {
            x.farmer(0);
        }
        for (int i = 0; i < 6; i++) {
            x.borrow(1, 0, 0);
        }
        x.repay(0, 1);
        x.feed(0, 0, 0, 0, 0);
        x.feed(0, 0, 0, 0, 0);
        x.rain(9);
        int[] due = {11, 1, 2, 3, 4, 5, 6, 7, 40, 9};
        for (int what = 0; what < 10; what++) {
            Due.is("count " + what, x.count(what), due[what]);
        }
        Due.is("count -1", x.count(-1), NONE);
        Due.is("count 10", x.count(10), NONE);
        Due.is("count least", x.count(MIN), NONE);
        Due.is("count most", x.count(MAX), NONE);
    }
}
