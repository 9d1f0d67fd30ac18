import java.nio.charset.StandardCharsets;
import java.util.Arrays;

/**
 * A trust that a test asks no more of than the document promises: nothing behind the 512th call. What the tests tell
 * it in other words (a text, a rain that answers) is here too.
 */
final class Trust {
    static final int MOST_CALLS = 512;

    private final TurnpikeTrust trust = new TurnpikeTrust();
    private int calls = 0;

    private TurnpikeTrust use() {
        calls++;
        if (calls > MOST_CALLS) {
            throw new AssertionError("the test itself is wrong: nothing is promised of call " + calls);
        }
        return trust;
    }

    int calls() {
        return calls;
    }

    /** A text on the tape, blanks behind it. */
    void put(String text) {
        byte[] bytes = text.getBytes(StandardCharsets.ISO_8859_1);
        for (int from = 0; from < bytes.length; from += 20) {
            byte[] part = Arrays.copyOfRange(bytes, from, from + 20);
            int[] fours = new int[5];
            for (int i = 0; i < 20; i++) {
                int sign = from + i < bytes.length ? part[i] & 255 : ' ';
                fours[i / 4] = fours[i / 4] << 8 | sign;
            }
            feed(fours[0], fours[1], fours[2], fours[3], fours[4]);
        }
    }

    /** An act of a text that is put on an empty tape. */
    int tell(String text, int day) {
        put(text);
        return act(text.length(), day);
    }

    int feed(int a, int b, int c, int d, int e) {
        return use().feed(a, b, c, d, e);
    }

    int act(int n, int day) {
        return use().act(n, day);
    }

    int fault() {
        return use().fault();
    }

    int stretch(int price) {
        return use().stretch(price);
    }

    int gate(int stretch) {
        return use().gate(stretch);
    }

    int traveller(int kind, int wheels, int beasts, int bits) {
        return use().traveller(kind, wheels, beasts, bits);
    }

    int pass(int traveller, int gate) {
        return use().pass(traveller, gate);
    }

    int clause() {
        return use().clause();
    }

    int asked(int act, int traveller, int gate) {
        return use().asked(act, traveller, gate);
    }

    int force(int day) {
        return use().force(day);
    }

    int wait(int days) {
        return use().wait(days);
    }

    /** 0, so that it is asked as the others are. */
    int rain(int days) {
        use().rain(days);
        return 0;
    }

    int mend(int loads) {
        return use().mend(loads);
    }

    int farmer(int money) {
        return use().farmer(money);
    }

    int bid(int gate, int farmer, int rent, int surety) {
        return use().bid(gate, farmer, rent, surety);
    }

    int let(int gate, int quarters) {
        return use().let(gate, quarters);
    }

    int gateTold(int gate, int what) {
        return use().gateTold(gate, what);
    }

    int borrow(int sum, int rate, int rank) {
        return use().borrow(sum, rate, rank);
    }

    int repay(int loan, int sum) {
        return use().repay(loan, sum);
    }

    long loan(int loan, int what) {
        return use().loan(loan, what);
    }

    long money(int farmer) {
        return use().money(farmer);
    }

    long wear(int stretch) {
        return use().wear(stretch);
    }

    long box(int day) {
        return use().box(day);
    }

    long journal(int k, int what) {
        return use().journal(k, what);
    }

    int count(int what) {
        return use().count(what);
    }
}
