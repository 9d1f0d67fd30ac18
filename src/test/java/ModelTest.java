/**
 * Long runs of calls on the class and on the model; all answers must be alike. The draws come from a counter, so that
 * every time the runs are the same.
 */
public final class ModelTest {
    private static final int RUNS = 150;
    private static final int TEXTS = 8_000;
    private static final int CALLS = 512;

    private final TurnpikeTrust trust = new TurnpikeTrust();
    private final Model model = new Model();
    private final String name;
    private long seed;

    private ModelTest(int run) {
        name = "run " + run;
        seed = run * 7_919L + 17;
    }

    public static void main(String[] args) {
        for (int run = 0; run < RUNS; run++) {
            new ModelTest(run).play();
        }
        for (int run = 0; run < TEXTS; run++) {
            new ModelTest(run).readOne();
        }
        Due.end("ModelTest");
    }

    /** 0 to below. */
    private int draw(int below) {
        seed = seed * 6_364_136_223_846_793_005L + 1_442_695_040_888_963_407L;
        return (int) ((seed >>> 33) % below);
    }

    private boolean isOneOf(int n) {
        return draw(n) == 0;
    }

    private String any(String... words) {
        return words[draw(words.length)];
    }

    private int near(int least, int most) {
        int[] edges = {least - 1, most + 1, least, most, Integer.MIN_VALUE, Integer.MAX_VALUE};
        return isOneOf(12) ? edges[draw(edges.length)] : least + draw(most - least + 1);
    }

    private void same(String call, Due.Call ofTrust, Due.Call ofModel) {
        Due.same(name + ": " + call, Due.outcome(ofTrust), Due.outcome(ofModel));
    }

    private String b(int depth) {
        String inner = depth > 0 ? any("not ", "(", "", "", "") : "";
        if (inner.equals("not ")) {
            return inner + b(depth - 1);
        }
        if (inner.equals("(")) {
            return inner + c(depth - 1) + ")";
        }
        return switch (draw(4)) {
            case 0 -> any("mail", "army", "church", "farm", "back", "back");
            case 1 -> "kind" + any("=", " = ") + any("coach", "cart", "wagon", "horse", "cattle", "sheep", "foot");
            case 2 -> any("wheels", "gate") + any("=", " < ", ">\n") + draw(8);
            default -> any("beasts", "day") + any("=", " < ", ">\n") + draw(400);
        };
    }

    private String c(int depth) {
        StringBuilder text = new StringBuilder(b(depth));
        while (isOneOf(3)) {
            text.append(any(" and ", " or ")).append(b(depth));
        }
        return text.toString();
    }

    private String clauseText(int depth) {
        String text = switch (draw(6)) {
            case 0 -> "free if not back and " + b(0);
            case 1 -> "times " + draw(9) + "/" + (1 + draw(5));
            case 2 -> any("once", "once all", "times 7/3");
            default -> "toll " + draw(isOneOf(5) ? 1_000_001 : 30) + any("", " each", " score");
        };
        boolean hasIf = text.contains(" if ");
        return text + (hasIf ? "" : isOneOf(3) ? "" : " if " + c(depth)) + any(";", " ;\n");
    }

    private String actText() {
        StringBuilder text = new StringBuilder();
        int clauses = isOneOf(12) ? 38 + draw(5) : 1 + draw(8);
        int depth = isOneOf(6) ? 12 : 3;
        for (int i = 0; i < clauses; i++) {
            text.append(clauses > 12 ? any("free if mail;", "toll 3;", "times 1/2;", "once;") : clauseText(depth));
        }
        return text.length() > 1_990 ? text.substring(0, 1_990) : text.toString();
    }

    /** Now and then one byte is gone, put in or another. */
    private String spoiled(String text) {
        StringBuilder other = new StringBuilder(text);
        int place = draw(text.length());
        String sign = any("x", "(", ")", ";", "/", "=", "<", ">", "0", "9", " ", "\0", "\u00e9", "not ", "999999", "if ", "mail ");
        switch (draw(4)) {
            case 0 -> other.deleteCharAt(place);
            case 1 -> other.insert(place, sign);
            case 2 -> other.setCharAt(place, sign.charAt(0));
            default -> other.setLength(place);
        }
        return other.toString();
    }

    private void tellAct(int from) {
        String text = actText();
        text = isOneOf(3) ? spoiled(text) : text;
        byte[] bytes = text.getBytes(java.nio.charset.StandardCharsets.ISO_8859_1);
        for (int i = 0; i < bytes.length; i += 20) {
            int[] n = new int[5];
            for (int k = 0; k < 20; k++) {
                n[k / 4] = n[k / 4] << 8 | (i + k < bytes.length ? bytes[i + k] & 255 : 32);
            }
            same("feed", () -> trust.feed(n[0], n[1], n[2], n[3], n[4]), () -> model.feed(n));
        }
        int length = isOneOf(10) ? near(0, 2_000) : bytes.length;
        same("act " + length + " of [" + text + "]", () -> trust.act(length, from), () -> model.act(length, from));
        same("fault of [" + text + "]", trust::fault, model::fault);
    }

    private void readOne() {
        tellAct(draw(20));
    }

    private void play() {
        boolean isReady = !isOneOf(10);
        for (int i = 0; isReady && i < 4; i++) {
            build();
        }
        for (int i = 0; i < CALLS; i++) {
            switch (draw(10)) {
                case 0 -> build();
                case 1, 2 -> money();
                case 3 -> time();
                case 4 -> look();
                default -> road();
            }
        }
        lookAtAll();
    }

    private void build() {
        int price = near(1, isOneOf(3) ? 10_000 : 40);
        same("stretch " + price, () -> trust.stretch(price), () -> model.stretch(price));
        int stretch = near(0, 4);
        same("gate " + stretch, () -> trust.gate(stretch), () -> model.gate(stretch));
        int kind = near(0, 6);
        int wheels = near(0, 20);
        int beasts = near(0, isOneOf(3) ? 10_000 : 60);
        int bits = near(0, 15);
        same("traveller", () -> trust.traveller(kind, wheels, beasts, bits),
                () -> model.traveller(kind, wheels, beasts, bits));
        int money = near(0, isOneOf(3) ? 1_000_000_000 : 5_000);
        same("farmer " + money, () -> trust.farmer(money), () -> model.farmer(money));
        tellAct(near(0, isOneOf(2) ? 300 : 9_999));
    }

    private void money() {
        int gate = near(0, 5);
        int farmer = near(0, 5);
        int rent = near(1, isOneOf(6) ? 10_000_000 : 900);
        int surety = isOneOf(3) ? near(1, 10_000_000) : rent + draw(50);
        int quarters = near(1, isOneOf(3) ? 40 : 4);
        int sum = near(1, isOneOf(4) ? 10_000_000 : 3_000);
        int rate = near(0, 500);
        int rank = near(0, 3);
        switch (draw(6)) {
            case 0, 1 -> same("bid", () -> trust.bid(gate, farmer, rent, surety),
                    () -> model.bid(gate, farmer, rent, surety));
            case 2 -> same("let", () -> trust.let(gate, quarters), () -> model.let(gate, quarters));
            case 3 -> same("borrow", () -> trust.borrow(sum, rate, rank), () -> model.borrow(sum, rate, rank));
            case 4 -> same("repay", () -> trust.repay(farmer, sum), () -> model.repay(farmer, sum));
            default -> {
                int loads = near(0, 20);
                same("mend " + loads, () -> trust.mend(loads), () -> model.mend(loads));
            }
        }
    }

    private void time() {
        if (isOneOf(3)) {
            int days = near(0, isOneOf(3) ? 1_000 : 9);
            same("rain " + days, () -> {
                trust.rain(days);
                return 0;
            }, () -> {
                model.rain(days);
                return 0;
            });
        } else {
            int days = near(0, isOneOf(4) ? 1_000 : isOneOf(2) ? 120 : 2);
            same("wait " + days, () -> trust.wait(days), () -> model.wait(days));
        }
    }

    private void road() {
        int traveller = near(0, 6);
        int gate = near(0, 5);
        int act = near(0, 5);
        same("asked", () -> trust.asked(act, traveller, gate), () -> model.asked(act, traveller, gate));
        same("pass", () -> trust.pass(traveller, gate), () -> model.pass(traveller, gate));
        same("clause", trust::clause, model::clause);
    }

    private void look() {
        int day = near(0, isOneOf(2) ? 9_999 : 500);
        int which = near(0, 12);
        int what = near(0, 10);
        int line = near(0, 100);
        same("force", () -> trust.force(day), () -> model.force(day));
        same("box", () -> trust.box(day), () -> model.box(day));
        same("gateTold", () -> trust.gateTold(which, what), () -> model.gateTold(which, what));
        same("loan", () -> trust.loan(which, what), () -> model.loan(which, what));
        same("money", () -> trust.money(which), () -> model.money(which));
        same("wear", () -> trust.wear(which), () -> model.wear(which));
        same("journal", () -> trust.journal(line, what), () -> model.journal(line, what));
        same("count", () -> trust.count(what), () -> model.count(what));
    }

    private void lookAtAll() {
        for (int i = 0; i < 12; i++) {
            int which = i;
            same("count at the end", () -> trust.count(which), () -> model.count(which));
            same("money at the end", () -> trust.money(which), () -> model.money(which));
            same("wear at the end", () -> trust.wear(which), () -> model.wear(which));
            for (int k = 0; k < 7; k++) {
                int what = k;
                same("gate at the end", () -> trust.gateTold(which, what), () -> model.gateTold(which, what));
                same("loan at the end", () -> trust.loan(which, what), () -> model.loan(which, what));
            }
        }
        for (int i = 0; i <= trust.count(7); i++) {
            int line = i;
            for (int k = 0; k < 4; k++) {
                int what = k;
                same("journal at the end", () -> trust.journal(line, what), () -> model.journal(line, what));
            }
        }
        for (int i = 0; i <= 9_999; i += 13) {
            int day = i;
            same("box at the end", () -> trust.box(day), () -> model.box(day));
            same("force at the end", () -> trust.force(day), () -> model.force(day));
        }
    }
}
