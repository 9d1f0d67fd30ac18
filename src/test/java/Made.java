/** Trusts with something in them already. */
final class Made {
    static final int COACH = 0;
    static final int CART = 1;
    static final int WAGON = 2;
    static final int HORSE = 3;
    static final int CATTLE = 4;
    static final int SHEEP = 5;
    static final int FOOT = 6;

    private Made() {
    }

    /** One stretch with two gates, an act that is in force from day 0 on, and a cart of four wheels and one beast. */
    static Trust road(String text) {
        return road(text, CART, 4, 1, 0);
    }

    /** The same with another traveller. */
    static Trust road(String text, int kind, int wheels, int beasts, int bits) {
        Trust x = new Trust();
        x.stretch(10);
        x.gate(0);
        x.gate(0);
        Due.is("act " + text, x.tell(text, 0), 0);
        x.traveller(kind, wheels, beasts, bits);
        return x;
    }

    /** Stretches of given prices and wear with a gate on each, no act, and a box. */
    static Trust roads(int box, int... pricesAndWear) {
        Trust x = new Trust();
        for (int i = 0; i + 1 < pricesAndWear.length; i += 2) {
            wear(x, pricesAndWear[i], pricesAndWear[i + 1]);
        }
        if (box > 0) {
            x.borrow(box, 0, 0);
        }
        return x;
    }

    /** One more stretch with a gate, and with as much wear; a toll is paid there if an act asks for one. */
    static int wear(Trust x, int price, int wear) {
        int stretch = x.stretch(price);
        int gate = x.gate(stretch);
        for (int left = wear; left > 0; left -= Math.min(left, 10_000)) {
            x.pass(x.traveller(CATTLE, 0, Math.min(left, 10_000), 0), gate);
        }
        return stretch;
    }

    /** Takes 1 to 10,000 from the box, by a load on one more stretch. */
    static void spend(Trust x, int sum) {
        wear(x, sum, 50);
        Due.is("a load for " + sum, x.mend(1), 1);
    }

    /** Farmers of given money at two gates without an act. */
    static Trust farmers(int... money) {
        Trust x = new Trust();
        x.stretch(10);
        x.gate(0);
        x.gate(0);
        for (int one : money) {
            x.farmer(one);
        }
        return x;
    }

    /** Something of everything, in the midst of its time; gate 1 is let, and gate 2 has two bids. */
    static Trust busy() {
        Trust x = new Trust();
        x.stretch(3);
        x.stretch(7);
        x.gate(0);
        x.gate(1);
        x.gate(1);
        x.tell("once; toll 5;", 0);
        x.tell("toll 9 if back;", 2);
        x.tell("free !", 0);
        x.traveller(WAGON, 4, 2, 0);
        x.traveller(CATTLE, 0, 90, 8);
        x.traveller(HORSE, 0, 1, 1);
        x.farmer(5_000);
        x.farmer(700);
        x.pass(0, 0);
        x.wait(1);
        x.rain(30);
        x.bid(1, 0, 100, 150);
        x.let(1, 3);
        x.bid(2, 1, 50, 60);
        x.bid(2, 0, 40, 40);
        x.borrow(1_000, 50, 1);
        x.borrow(300, 100, 0);
        x.repay(0, 10);
        x.pass(0, 0);
        x.pass(1, 1);
        x.pass(2, 2);
        x.mend(1);
        x.put("toll 3 if gate = 1;");
        return x;
    }

    /** As much of everything as there may be. */
    static Trust full() {
        Trust x = new Trust();
        for (int i = 0; i < 60; i++) {
            x.traveller(i % 7, 4, i, i % 16);
        }
        for (int i = 0; i < 12; i++) {
            x.stretch(1 + i);
        }
        for (int i = 0; i < 8; i++) {
            x.gate(11 - i);
            x.farmer(1_000 + i);
        }
        for (int i = 0; i < 10; i++) {
            x.borrow(100 + i, i, i % 4);
            x.bid(7, i % 8, 10 + i, 20);
        }
        for (int i = 0; i < 12; i++) {
            x.act(0, i);
        }
        x.put("toll 8;");
        return x;
    }
}
