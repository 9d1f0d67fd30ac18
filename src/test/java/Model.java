import java.math.BigInteger;
import java.util.ArrayList;
import java.util.HashMap;
import java.util.HashSet;
import java.util.List;
import java.util.Map;
import java.util.Set;
import java.util.function.Predicate;

/** A second program of the document, written for plainness with all of the Java library, to be compared with the class. */
final class Model {
    private static final int NONE = -1;
    private static final List<String> KINDS = List.of("coach", "cart", "wagon", "horse", "cattle", "sheep", "foot");

    record Token(int place, String text) {
        boolean isNumber() {
            return Character.isDigit(text.charAt(0));
        }
    }

    record Pass(int[] traveller, int gate, int day, boolean isBack) {
    }

    record Clause(String word, String manner, long n, long m, Predicate<Pass> condition) {
    }

    record Act(int from, List<Clause> clauses) {
    }

    record Bid(int farmer, int rent, int surety) {
    }

    record Answer(int toll, int clause) {
    }

    static final class Fault extends RuntimeException {
        private static final long serialVersionUID = 1;
        final int kind;
        final int place;

        Fault(int kind, int place) {
            this.kind = kind;
            this.place = place;
        }
    }

    /** Reads one text: all tokens first, then the grammar over them. */
    static final class Parser {
        private final List<Token> tokens = new ArrayList<>();
        private final int length;
        private int at = 0;
        private int open = 0;

        Parser(String text) {
            length = text.length();
            int i = 0;
            while (i < length) {
                int from = i;
                char c = text.charAt(i);
                if (c == ' ' || c == '\n') {
                    i++;
                    continue;
                }
                if (c >= 'a' && c <= 'z') {
                    while (i < length && text.charAt(i) >= 'a' && text.charAt(i) <= 'z') {
                        i++;
                    }
                } else if (c >= '0' && c <= '9') {
                    while (i < length && text.charAt(i) >= '0' && text.charAt(i) <= '9') {
                        i++;
                    }
                } else {
                    i++;
                }
                tokens.add(new Token(from, text.substring(from, i)));
            }
        }

        private String peek() {
            return at < tokens.size() ? tokens.get(at).text : "";
        }

        private int place() {
            return at < tokens.size() ? tokens.get(at).place : length;
        }

        private Fault wrong() {
            return new Fault(1, place());
        }

        private String take(String... any) {
            for (String one : any) {
                if (peek().equals(one)) {
                    at++;
                    return one;
                }
            }
            throw wrong();
        }

        private boolean isNext(String one) {
            return peek().equals(one);
        }

        private long number(boolean isDivisor) {
            if (at >= tokens.size() || !tokens.get(at).isNumber()) {
                throw wrong();
            }
            BigInteger value = new BigInteger(peek());
            if (value.compareTo(BigInteger.valueOf(1_000_000)) > 0 || isDivisor && value.signum() == 0) {
                throw new Fault(2, place());
            }
            at++;
            return value.longValue();
        }

        List<Clause> all() {
            List<Clause> clauses = new ArrayList<>();
            while (at < tokens.size()) {
                int first = place();
                String word = take("free", "toll", "times", "once");
                if (clauses.size() == 40) {
                    throw new Fault(3, first);
                }
                String manner = "";
                long n = 0;
                long m = 1;
                if (word.equals("toll")) {
                    n = number(false);
                    if (isNext("each") || isNext("score")) {
                        manner = take("each", "score");
                    }
                } else if (word.equals("times")) {
                    n = number(false);
                    take("/");
                    m = number(true);
                } else if (word.equals("once") && isNext("all")) {
                    manner = take("all");
                }
                Predicate<Pass> condition = p -> true;
                if (isNext("if")) {
                    take("if");
                    condition = c();
                }
                take(";");
                clauses.add(new Clause(word, manner, n, m, condition));
            }
            return clauses;
        }

        private Predicate<Pass> c() {
            Predicate<Pass> sum = a();
            while (isNext("or")) {
                take("or");
                sum = sum.or(a());
            }
            return sum;
        }

        private Predicate<Pass> a() {
            Predicate<Pass> product = b();
            while (isNext("and")) {
                take("and");
                product = product.and(b());
            }
            return product;
        }

        private Predicate<Pass> b() {
            int first = place();
            String word = take("not", "(", "mail", "army", "church", "farm", "back", "wheels", "beasts", "gate", "day", "kind");
            switch (word) {
                case "not":
                case "(":
                    if (open == 10) {
                        throw new Fault(3, first);
                    }
                    open++;
                    Predicate<Pass> inner = word.equals("(") ? c() : b().negate();
                    if (word.equals("(")) {
                        take(")");
                    }
                    open--;
                    return inner;
                case "mail":
                    return p -> (p.traveller[3] & 1) != 0;
                case "army":
                    return p -> (p.traveller[3] & 2) != 0;
                case "church":
                    return p -> (p.traveller[3] & 4) != 0;
                case "farm":
                    return p -> (p.traveller[3] & 8) != 0;
                case "back":
                    return Pass::isBack;
                case "kind":
                    take("=");
                    int kind = KINDS.indexOf(take(KINDS.toArray(new String[0])));
                    return p -> p.traveller[0] == kind;
                default:
                    String relation = take("=", "<", ">");
                    long n = number(false);
                    return p -> {
                        long fact = switch (word) {
                            case "wheels" -> p.traveller[1];
                            case "beasts" -> p.traveller[2];
                            case "gate" -> p.gate;
                            default -> p.day % 365;
                        };
                        return relation.equals("=") ? fact == n : relation.equals("<") ? fact < n : fact > n;
                    };
            }
        }
    }

    private final StringBuilder tape = new StringBuilder();
    private final List<Act> acts = new ArrayList<>();
    private final List<int[]> travellers = new ArrayList<>();
    private final List<long[]> stretches = new ArrayList<>();
    private final List<Integer> gateStretch = new ArrayList<>();
    private final List<List<Bid>> gateBids = new ArrayList<>();
    private final List<Integer> gatePasses = new ArrayList<>();
    private final Map<Integer, long[]> leases = new HashMap<>();
    private final List<Long> farmers = new ArrayList<>();
    private final List<long[]> loans = new ArrayList<>();
    private final List<long[]> journal = new ArrayList<>();
    private final Map<Integer, Long> boxes = new HashMap<>();
    private Set<String> passedToday = new HashSet<>();
    private Set<String> paidToday = new HashSet<>();
    private int day = 0;
    private int rain = 0;
    private int fault = NONE;
    private int latest = NONE;
    private long box = 0;

    private static void argument(boolean isFine) {
        if (!isFine) {
            throw new IllegalArgumentException();
        }
    }

    private static void index(int i, List<?> list) {
        if (i < 0 || i >= list.size()) {
            throw new IndexOutOfBoundsException();
        }
    }

    private static void state(boolean isFine) {
        if (!isFine) {
            throw new IllegalStateException();
        }
    }

    private void change(int kind, int who, long sum) {
        box += sum;
        journal.add(new long[] {day, kind, who, sum});
    }

    int feed(int... numbers) {
        if (tape.length() > 1_980) {
            return NONE;
        }
        for (int number : numbers) {
            tape.append((char) (number >>> 24)).append((char) (number >>> 16 & 255));
            tape.append((char) (number >>> 8 & 255)).append((char) (number & 255));
        }
        return tape.length();
    }

    int act(int n, int from) {
        argument(n >= 0 && n <= tape.length() && from >= 0 && from <= 9_999);
        state(acts.size() < 12);
        String text = tape.substring(0, n);
        tape.setLength(0);
        try {
            acts.add(new Act(from, new Parser(text).all()));
            fault = NONE;
            return acts.size() - 1;
        } catch (Fault f) {
            fault = f.place;
            return f.kind - 10;
        }
    }

    int fault() {
        return fault;
    }

    int stretch(int price) {
        argument(price >= 1 && price <= 10_000);
        state(stretches.size() < 12);
        stretches.add(new long[] {price, 0});
        return stretches.size() - 1;
    }

    int gate(int stretch) {
        index(stretch, stretches);
        state(gateStretch.size() < 8);
        gateStretch.add(stretch);
        gateBids.add(new ArrayList<>());
        gatePasses.add(0);
        return gateStretch.size() - 1;
    }

    int traveller(int kind, int wheels, int beasts, int bits) {
        argument(kind >= 0 && kind <= 6 && wheels >= 0 && wheels <= 20);
        argument(beasts >= 0 && beasts <= 10_000 && bits >= 0 && bits <= 15);
        state(travellers.size() < 60);
        travellers.add(new int[] {kind, wheels, beasts, bits});
        return travellers.size() - 1;
    }

    private Answer reckon(int number, int traveller, int gate) {
        if (number == NONE) {
            return new Answer(0, NONE);
        }
        Act act = acts.get(number);
        String place = traveller + "@" + gate;
        Pass pass = new Pass(travellers.get(traveller), gate, day, passedToday.contains(place));
        boolean paidHere = paidToday.contains(place);
        boolean paidAny = paidToday.stream().anyMatch(p -> p.startsWith(traveller + "@"));
        for (int i = 0; i < act.clauses.size(); i++) {
            Clause one = act.clauses.get(i);
            if (!one.condition.test(pass)) {
                continue;
            }
            if (one.word.equals("free")) {
                return new Answer(0, i);
            }
            if (!one.word.equals("toll")) {
                continue;
            }
            long beasts = pass.traveller[2];
            long sum = one.n;
            if (one.manner.equals("each")) {
                sum = one.n * beasts;
            }
            if (one.manner.equals("score")) {
                sum = one.n * (beasts / 20 + (beasts % 20 > 0 ? 1 : 0));
            }
            sum = Math.min(sum, 1_000_000);
            for (int k = 0; k < i; k++) {
                Clause times = act.clauses.get(k);
                if (times.word.equals("times") && times.condition.test(pass)) {
                    sum = Math.min(sum * times.n / times.m, 1_000_000);
                }
            }
            for (int k = 0; k < i; k++) {
                Clause once = act.clauses.get(k);
                boolean isPaid = once.manner.equals("all") ? paidAny : paidHere;
                if (once.word.equals("once") && isPaid && once.condition.test(pass)) {
                    return new Answer(0, k);
                }
            }
            return new Answer((int) sum, i);
        }
        return new Answer(0, NONE);
    }

    int pass(int traveller, int gate) {
        index(traveller, travellers);
        index(gate, gateStretch);
        Answer answer = reckon(actOf(day), traveller, gate);
        latest = answer.clause;
        passedToday.add(traveller + "@" + gate);
        if (answer.toll > 0) {
            paidToday.add(traveller + "@" + gate);
            if (leases.containsKey(gate)) {
                int farmer = (int) leases.get(gate)[0];
                farmers.set(farmer, farmers.get(farmer) + answer.toll);
            } else {
                change(0, traveller, answer.toll);
            }
        }
        int[] who = travellers.get(traveller);
        int wear = List.of(6, 4, 10, 1, who[2], who[2] / 4, 0).get(who[0]);
        if (who[0] <= 2 && who[1] < 6) {
            wear *= 2;
        }
        stretches.get(gateStretch.get(gate))[1] += rain > 0 ? 2 * wear : wear;
        gatePasses.set(gate, gatePasses.get(gate) + 1);
        return answer.toll;
    }

    int clause() {
        return latest;
    }

    int asked(int act, int traveller, int gate) {
        index(act, acts);
        index(traveller, travellers);
        index(gate, gateStretch);
        return reckon(act, traveller, gate).toll;
    }

    private int actOf(int when) {
        for (int from = when; from >= 0; from--) {
            for (int i = acts.size() - 1; i >= 0; i--) {
                if (acts.get(i).from == from) {
                    return i;
                }
            }
        }
        return NONE;
    }

    int force(int when) {
        argument(when >= 0 && when <= 9_999);
        return actOf(when);
    }

    int wait(int days) {
        argument(days >= 0 && days <= 1_000 && day + days <= 9_999);
        for (int i = 0; i < days; i++) {
            boxes.put(day, box);
            day++;
            rain = Math.max(0, rain - 1);
            passedToday = new HashSet<>();
            paidToday = new HashSet<>();
            if (day % 365 == 0) {
                interest();
            }
            for (int gate = 0; gate < gateStretch.size(); gate++) {
                lease(gate);
            }
        }
        return day;
    }

    private void interest() {
        for (long[] loan : loans) {
            loan[3] += loan[0] * loan[1] / 1_000;
        }
        for (int rank = 0; rank < 4; rank++) {
            List<Integer> ranked = new ArrayList<>();
            long all = 0;
            for (int i = 0; i < loans.size(); i++) {
                if (loans.get(i)[2] == rank && loans.get(i)[3] > 0) {
                    ranked.add(i);
                    all += loans.get(i)[3];
                }
            }
            Map<Integer, Long> gets = new HashMap<>();
            long left = box;
            for (int i : ranked) {
                long part = all <= box ? loans.get(i)[3] : loans.get(i)[3] * box / all;
                gets.put(i, part);
                left -= part;
            }
            if (all > box) {
                long had = box;
                long total = all;
                List<Integer> byRest = new ArrayList<>(ranked);
                byRest.sort((i, k) -> Long.compare(loans.get(k)[3] * had % total, loans.get(i)[3] * had % total));
                for (int i = 0; i < left; i++) {
                    gets.merge(byRest.get(i), 1L, Long::sum);
                }
            }
            for (int i : ranked) {
                if (gets.get(i) > 0) {
                    loans.get(i)[3] -= gets.get(i);
                    change(4, i, -gets.get(i));
                }
            }
        }
    }

    /** A lease: its farmer, rent, surety, first day and quarters. */
    private void lease(int gate) {
        long[] lease = leases.get(gate);
        if (lease == null || (day - lease[3]) % 91 != 0) {
            return;
        }
        int farmer = (int) lease[0];
        long money = farmers.get(farmer);
        if (day == lease[3] + 91 * lease[4]) {
            farmers.set(farmer, money + lease[2]);
            leases.remove(gate);
        } else if (money < lease[1]) {
            change(2, gate, lease[2]);
            leases.remove(gate);
        } else {
            farmers.set(farmer, money - lease[1]);
            change(1, gate, lease[1]);
        }
    }

    void rain(int days) {
        argument(days >= 0 && days <= 1_000);
        rain = days;
    }

    int mend(int loads) {
        argument(loads >= 0 && loads <= 20);
        int laid = 0;
        while (laid < loads) {
            int best = NONE;
            for (int i = stretches.size() - 1; i >= 0; i--) {
                long[] one = stretches.get(i);
                BigInteger mine = BigInteger.valueOf(Math.min(50, one[1]));
                if (one[1] == 0) {
                    continue;
                }
                if (best == NONE || mine.multiply(BigInteger.valueOf(stretches.get(best)[0])).compareTo(
                        BigInteger.valueOf(Math.min(50, stretches.get(best)[1])).multiply(BigInteger.valueOf(one[0]))) >= 0) {
                    best = i;
                }
            }
            if (best == NONE || stretches.get(best)[0] > box) {
                break;
            }
            stretches.get(best)[1] = Math.max(0, stretches.get(best)[1] - 50);
            change(6, best, -stretches.get(best)[0]);
            laid++;
        }
        return laid;
    }

    int farmer(int money) {
        argument(money >= 0 && money <= 1_000_000_000);
        state(farmers.size() < 8);
        farmers.add((long) money);
        return farmers.size() - 1;
    }

    int bid(int gate, int farmer, int rent, int surety) {
        index(gate, gateStretch);
        index(farmer, farmers);
        argument(rent >= 1 && rent <= 10_000_000 && surety >= 1 && surety <= 10_000_000);
        state(!leases.containsKey(gate) && gateBids.get(gate).size() < 10);
        gateBids.get(gate).add(new Bid(farmer, rent, surety));
        return gateBids.get(gate).size();
    }

    int let(int gate, int quarters) {
        index(gate, gateStretch);
        argument(quarters >= 1 && quarters <= 40);
        state(!leases.containsKey(gate));
        Bid won = gateBids.get(gate).stream()
                .filter(b -> b.surety >= b.rent && farmers.get(b.farmer) >= (long) b.rent + b.surety)
                .reduce((a, b) -> b.rent > a.rent ? b : a).orElse(null);
        if (won == null) {
            return NONE;
        }
        gateBids.get(gate).clear();
        farmers.set(won.farmer, farmers.get(won.farmer) - won.surety - won.rent);
        change(1, gate, won.rent);
        leases.put(gate, new long[] {won.farmer, won.rent, won.surety, day, quarters});
        return won.farmer;
    }

    int gateTold(int gate, int what) {
        index(gate, gateStretch);
        argument(what >= 0 && what <= 6);
        long[] lease = leases.get(gate);
        long next = lease == null ? 0 : lease[3] + 91 * ((day - lease[3]) / 91 + 1);
        long[] told = {gateStretch.get(gate), lease == null ? NONE : lease[0], lease == null ? 0 : lease[1],
            lease == null ? 0 : lease[2], next, gateBids.get(gate).size(), gatePasses.get(gate)};
        return (int) told[what];
    }

    int borrow(int sum, int rate, int rank) {
        argument(sum >= 1 && sum <= 10_000_000 && rate >= 0 && rate <= 500 && rank >= 0 && rank <= 3);
        state(loans.size() < 10);
        loans.add(new long[] {sum, rate, rank, 0});
        change(3, loans.size() - 1, sum);
        return loans.size() - 1;
    }

    int repay(int loan, int sum) {
        index(loan, loans);
        argument(sum >= 1);
        if (loans.get(loan)[0] < sum || box < sum) {
            return NONE;
        }
        loans.get(loan)[0] -= sum;
        change(5, loan, -sum);
        return (int) loans.get(loan)[0];
    }

    long loan(int loan, int what) {
        index(loan, loans);
        argument(what >= 0 && what <= 3);
        return loans.get(loan)[what];
    }

    long money(int farmer) {
        index(farmer, farmers);
        return farmers.get(farmer);
    }

    long wear(int stretch) {
        index(stretch, stretches);
        return stretches.get(stretch)[1];
    }

    long box(int when) {
        argument(when >= 0 && when <= 9_999);
        return boxes.getOrDefault(when, box);
    }

    long journal(int k, int what) {
        index(k, journal);
        argument(what >= 0 && what <= 3);
        return journal.get(k)[what];
    }

    int count(int what) {
        int[] told = {day, acts.size(), stretches.size(), gateStretch.size(), travellers.size(), farmers.size(),
            loans.size(), journal.size(), tape.length(), rain};
        return what >= 0 && what < told.length ? told[what] : NONE;
    }
}
