import java.util.ArrayList;
import java.util.Arrays;

/** A turnpike trust; ../shared/DOC.md says what each call does. */
public final class TurnpikeTrust {
    public static final int NONE = -1;

    private static final int LAST_DAY = 9_999;
    private static final int LONGEST_WAIT = 1_000;
    private static final int YEAR = 365;
    private static final int QUARTER = 91;
    private static final int MOST_ACTS = 12;
    private static final int MOST_STRETCHES = 12;
    private static final int MOST_GATES = 8;
    private static final int MOST_TRAVELLERS = 60;
    private static final int MOST_FARMERS = 8;
    private static final int MOST_BIDS = 10;
    private static final int MOST_LOANS = 10;
    private static final int MOST_LOADS = 20;
    private static final int MOST_QUARTERS = 40;
    private static final int RANKS = 4;
    private static final int LOAD = 50;
    private static final int MILLION = 1_000_000;

    // Kinds of lines in the journal.
    private static final int TOLL_LINE = 0;
    private static final int RENT_LINE = 1;
    private static final int SURETY_LINE = 2;
    private static final int LOAN_LINE = 3;
    private static final int INTEREST_LINE = 4;
    private static final int REPAID_LINE = 5;
    private static final int LOAD_LINE = 6;

    // The words of the acts; their numbers below run as they stand here.
    private static final String WORDS = "free toll times once if each score all or and not mail army church farm back wheels beasts gate day kind coach cart wagon horse cattle sheep foot ";
    private static final String SIGNS = "();/=<>";

    // Tokens: a word's number (above every byte, so that a sign can be its own byte), or one of the first three.
    private static final int END = -1;
    private static final int NUMBER = 1;
    private static final int STRANGE = 2;
    private static final int FREE = 256;
    private static final int TOLL = 257;
    private static final int TIMES = 258;
    private static final int ONCE = 259;
    private static final int IF = 260;
    private static final int EACH = 261;
    private static final int SCORE = 262;
    private static final int ALL = 263;
    private static final int OR = 264;
    private static final int AND = 265;
    private static final int NOT = 266;
    private static final int MAIL = 267;
    private static final int ARMY = 268;
    private static final int CHURCH = 269;
    private static final int FARM = 270;
    private static final int BACK = 271;
    private static final int WHEELS = 272;
    private static final int BEASTS = 273;
    private static final int GATE = 274;
    private static final int DAY = 275;
    private static final int KIND = 276;
    private static final int COACH = 277;
    private static final int FOOT = 283;

    private final Reader reader = new Reader();
    private final Reckoner reckoner = new Reckoner();
    private final Box chest = new Box();
    private final ArrayList<Act> acts = new ArrayList<Act>();
    private final ArrayList<Stretch> stretches = new ArrayList<Stretch>();
    private final ArrayList<Gate> gates = new ArrayList<Gate>();
    private final ArrayList<Traveller> travellers = new ArrayList<Traveller>();
    private final ArrayList<Farmer> farmers = new ArrayList<Farmer>();
    private final ArrayList<Loan> loans = new ArrayList<Loan>();
    private int today = 0;
    private int firstDryDay = 0;
    private int latestClause = NONE;

    public TurnpikeTrust() {
    }

    public int feed(int a, int b, int c, int d, int e) {
        if (reader.tapeSize + 20 > Reader.TAPE) {
            return NONE;
        }
        reader.append(a);
        reader.append(b);
        reader.append(c);
        reader.append(d);
        reader.append(e);
        return reader.tapeSize;
    }

    public int act(int n, int day) throws IllegalArgumentException, IllegalStateException {
        if (!isWithin(n, 0, reader.tapeSize) || !isWithin(day, 0, LAST_DAY)) {
            throw new IllegalArgumentException("no such length or day");
        }
        if (acts.size() >= MOST_ACTS) {
            throw new IllegalStateException("no more acts");
        }
        Act read = new Act(day);
        boolean isFine = reader.readAct(read, n);
        reader.tapeSize = 0;
        if (!isFine) {
            return reader.fault - 10;
        }
        acts.add(read);
        return acts.size() - 1;
    }

    public int fault() {
        return reader.faultPlace;
    }

    public int stretch(int price) throws IllegalArgumentException, IllegalStateException {
        if (!isWithin(price, 1, 10_000)) {
            throw new IllegalArgumentException("no such price");
        }
        if (stretches.size() >= MOST_STRETCHES) {
            throw new IllegalStateException("no more stretches");
        }
        stretches.add(new Stretch(stretches.size(), price));
        return stretches.size() - 1;
    }

    public int gate(int stretch) throws IndexOutOfBoundsException, IllegalStateException {
        if (stretch < 0 || stretch >= stretches.size()) {
            throw new IndexOutOfBoundsException("no such stretch");
        }
        if (gates.size() >= MOST_GATES) {
            throw new IllegalStateException("no more gates");
        }
        gates.add(new Gate(gates.size(), stretches.get(stretch)));
        return gates.size() - 1;
    }

    public int traveller(int kind, int wheels, int beasts, int bits)
            throws IllegalArgumentException, IllegalStateException {
        if (!isWithin(kind, 0, 6) || !isWithin(wheels, 0, 20)
                || !isWithin(beasts, 0, 10_000) || !isWithin(bits, 0, 15)) {
            throw new IllegalArgumentException("no such traveller");
        }
        if (travellers.size() >= MOST_TRAVELLERS) {
            throw new IllegalStateException("no more travellers");
        }
        travellers.add(new Traveller(kind, wheels, beasts, bits));
        return travellers.size() - 1;
    }

    public int pass(int traveller, int gate) throws IndexOutOfBoundsException {
        if (traveller < 0 || traveller >= travellers.size()) {
            throw new IndexOutOfBoundsException("no such traveller");
        }
        if (gate < 0 || gate >= gates.size()) {
            throw new IndexOutOfBoundsException("no such gate");
        }
        Traveller who = travellers.get(traveller);
        Gate where = gates.get(gate);
        int number = actOn(today);
        boolean isInForce = number >= 0 && number < acts.size();
        reckoner.reckon(isInForce ? acts.get(number) : null, who, gate, today);
        int toll = reckoner.toll;
        latestClause = reckoner.by;
        takeToll(traveller, where, toll);
        who.noteAt(gate, today, toll);
        where.passes++;
        where.road.worn += rainLeft() > 0 ? 2L * who.harm() : who.harm();
        return toll;
    }

    public int clause() {
        return latestClause;
    }

    public int asked(int act, int traveller, int gate) throws IndexOutOfBoundsException {
        if (act < 0 || act >= acts.size()) {
            throw new IndexOutOfBoundsException("no such act");
        }
        if (traveller < 0 || traveller >= travellers.size()) {
            throw new IndexOutOfBoundsException("no such traveller");
        }
        if (gate < 0 || gate >= gates.size()) {
            throw new IndexOutOfBoundsException("no such gate");
        }
        reckoner.reckon(acts.get(act), travellers.get(traveller), gate, today);
        return reckoner.toll;
    }

    public int force(int day) throws IllegalArgumentException {
        if (!isWithin(day, 0, LAST_DAY)) {
            throw new IllegalArgumentException("no such day");
        }
        return actOn(day);
    }

    public int wait(int days) throws IllegalArgumentException {
        if (!isWithin(days, 0, LONGEST_WAIT) || today + days > LAST_DAY) {
            throw new IllegalArgumentException("no such wait");
        }
        for (int i = 0; i < days; i++) {
            moveOn();
        }
        return today;
    }

    public void rain(int days) throws IllegalArgumentException {
        if (!isWithin(days, 0, LONGEST_WAIT)) {
            throw new IllegalArgumentException("no such rain");
        }
        firstDryDay = today + days;
    }

    public int mend(int loads) throws IllegalArgumentException {
        if (!isWithin(loads, 0, MOST_LOADS)) {
            throw new IllegalArgumentException("no such loads");
        }
        for (int laid = 0; laid < loads; laid++) {
            Stretch best = worthMost();
            if (best == null || chest.held < best.price) {
                return laid;
            }
            best.worn -= best.loadTakes();
            chest.change(today, LOAD_LINE, best.number, -best.price);
        }
        return loads;
    }

    public int farmer(int money) throws IllegalArgumentException, IllegalStateException {
        if (!isWithin(money, 0, 1_000_000_000)) {
            throw new IllegalArgumentException("no such money");
        }
        if (farmers.size() >= MOST_FARMERS) {
            throw new IllegalStateException("no more farmers");
        }
        farmers.add(new Farmer(farmers.size(), money));
        return farmers.size() - 1;
    }

    public int bid(int gate, int farmer, int rent, int surety)
            throws IndexOutOfBoundsException, IllegalArgumentException, IllegalStateException {
        if (gate < 0 || gate >= gates.size()) {
            throw new IndexOutOfBoundsException("no such gate");
        }
        if (farmer < 0 || farmer >= farmers.size()) {
            throw new IndexOutOfBoundsException("no such farmer");
        }
        if (!isWithin(rent, 1, 10 * MILLION) || !isWithin(surety, 1, 10 * MILLION)) {
            throw new IllegalArgumentException("no such rent or surety");
        }
        Gate where = gates.get(gate);
        if (where.tenant != null || where.bids.size() >= MOST_BIDS) {
            throw new IllegalStateException("no more bids");
        }
        where.bids.add(new Bid(farmers.get(farmer), rent, surety));
        return where.bids.size();
    }

    public int let(int gate, int quarters)
            throws IndexOutOfBoundsException, IllegalArgumentException, IllegalStateException {
        if (gate < 0 || gate >= gates.size()) {
            throw new IndexOutOfBoundsException("no such gate");
        }
        if (!isWithin(quarters, 1, MOST_QUARTERS)) {
            throw new IllegalArgumentException("no such quarters");
        }
        Gate where = gates.get(gate);
        if (where.tenant != null) {
            throw new IllegalStateException("it is let");
        }
        Bid best = where.bestBid();
        if (best == null) {
            return NONE;
        }
        where.beginLease(best, quarters, today);
        keepLease(where);
        return best.bidder.number;
    }

    public int gateTold(int gate, int what) throws IndexOutOfBoundsException, IllegalArgumentException {
        if (gate < 0 || gate >= gates.size()) {
            throw new IndexOutOfBoundsException("no such gate");
        }
        Gate told = gates.get(gate);
        switch (what) {
            case 0:
                return told.road.number;
            case 1:
                return told.tenant == null ? NONE : told.tenant.number;
            case 2:
                return told.rent;
            case 3:
                return told.surety;
            case 4:
                return told.dueDay;
            case 5:
                return told.bids.size();
            case 6:
                return told.passes;
            default:
                throw new IllegalArgumentException("no such question");
        }
    }

    public int borrow(int sum, int rate, int rank) throws IllegalArgumentException, IllegalStateException {
        if (!isWithin(sum, 1, 10 * MILLION) || !isWithin(rate, 0, 500) || !isWithin(rank, 0, RANKS - 1)) {
            throw new IllegalArgumentException("no such loan");
        }
        if (loans.size() >= MOST_LOANS) {
            throw new IllegalStateException("no more loans");
        }
        int number = loans.size();
        loans.add(new Loan(sum, rate, rank));
        chest.change(today, LOAN_LINE, number, sum);
        return number;
    }

    public int repay(int loan, int sum) throws IndexOutOfBoundsException, IllegalArgumentException {
        if (loan < 0 || loan >= loans.size()) {
            throw new IndexOutOfBoundsException("no such loan");
        }
        if (sum < 1) {
            throw new IllegalArgumentException("no such sum");
        }
        Loan back = loans.get(loan);
        if (back.sum < sum || chest.held < sum) {
            return NONE;
        }
        back.sum -= sum;
        chest.change(today, REPAID_LINE, loan, -sum);
        return back.sum;
    }

    public long loan(int loan, int what) throws IndexOutOfBoundsException, IllegalArgumentException {
        if (loan < 0 || loan >= loans.size()) {
            throw new IndexOutOfBoundsException("no such loan");
        }
        Loan told = loans.get(loan);
        switch (what) {
            case 0:
                return told.sum;
            case 1:
                return told.rate;
            case 2:
                return told.rank;
            case 3:
                return told.due;
            default:
                throw new IllegalArgumentException("no such question");
        }
    }

    public long money(int farmer) throws IndexOutOfBoundsException {
        if (farmer < 0 || farmer >= farmers.size()) {
            throw new IndexOutOfBoundsException("no such farmer");
        }
        return farmers.get(farmer).purse;
    }

    public long wear(int stretch) throws IndexOutOfBoundsException {
        if (stretch < 0 || stretch >= stretches.size()) {
            throw new IndexOutOfBoundsException("no such stretch");
        }
        return stretches.get(stretch).worn;
    }

    public long box(int day) throws IllegalArgumentException {
        if (!isWithin(day, 0, LAST_DAY)) {
            throw new IllegalArgumentException("no such day");
        }
        return day >= today ? chest.held : chest.heldBehind(day);
    }

    public long journal(int k, int what) throws IndexOutOfBoundsException, IllegalArgumentException {
        if (k < 0 || k >= chest.lines) {
            throw new IndexOutOfBoundsException("no such line");
        }
        if (!isWithin(what, 0, 3)) {
            throw new IllegalArgumentException("no such question");
        }
        return chest.told(k, what);
    }

    public int count(int what) {
        switch (what) {
            case 0:
                return today;
            case 1:
                return acts.size();
            case 2:
                return stretches.size();
            case 3:
                return gates.size();
            case 4:
                return travellers.size();
            case 5:
                return farmers.size();
            case 6:
                return loans.size();
            case 7:
                return chest.lines;
            case 8:
                return reader.tapeSize;
            case 9:
                return rainLeft();
            default:
                return NONE;
        }
    }

    private static boolean isWithin(int number, int least, int most) {
        return number >= least && number <= most;
    }

    private int rainLeft() {
        return firstDryDay > today ? firstDryDay - today : 0;
    }

    private int actOn(int day) {
        int best = NONE;
        int bestFrom = NONE;
        for (int i = 0; i < acts.size(); i++) {
            int from = acts.get(i).from;
            // Not below, so that of one day the act told last wins.
            if (from <= day && from >= bestFrom) {
                best = i;
                bestFrom = from;
            }
        }
        return best;
    }

    private void takeToll(int traveller, Gate where, int toll) {
        if (where.tenant != null) {
            where.tenant.purse += toll;
        } else if (toll > 0) {
            chest.change(today, TOLL_LINE, traveller, toll);
        }
    }

    private Stretch worthMost() {
        Stretch best = null;
        for (int i = 0; i < stretches.size(); i++) {
            Stretch one = stretches.get(i);
            if (one.worn > 0 && (best == null || one.isWorthMoreThan(best))) {
                best = one;
            }
        }
        return best;
    }

    private void moveOn() {
        today++;
        if (today % YEAR == 0) {
            payInterest();
        }
        for (int i = 0; i < gates.size(); i++) {
            Gate where = gates.get(i);
            if (where.tenant != null && where.dueDay == today) {
                keepLease(where);
            }
        }
    }

    /** What the day on which something is due brings to a gate that is let. */
    private void keepLease(Gate where) {
        Farmer tenant = where.tenant;
        if (tenant == null) {
            return;
        }
        if (where.rentsLeft <= 0) {
            tenant.purse += where.surety;
            where.endLease();
        } else if (tenant.purse < where.rent) {
            chest.change(today, SURETY_LINE, where.number, where.surety);
            where.endLease();
        } else {
            tenant.purse -= where.rent;
            chest.change(today, RENT_LINE, where.number, where.rent);
            where.rentsLeft--;
            where.dueDay += QUARTER;
        }
    }

    private void payInterest() {
        for (int i = 0; i < loans.size(); i++) {
            loans.get(i).growDue();
        }
        for (int rank = 0; rank < RANKS; rank++) {
            long all = dueOf(rank);
            if (chest.held >= all) {
                grantAll(rank);
            } else {
                grantParts(rank, all);
            }
            payGranted(rank);
        }
    }

    private long dueOf(int rank) {
        long all = 0;
        for (int i = 0; i < loans.size(); i++) {
            Loan one = loans.get(i);
            all += one.rank == rank ? one.due : 0;
        }
        return all;
    }

    private void grantAll(int rank) {
        for (int i = 0; i < loans.size(); i++) {
            Loan one = loans.get(i);
            if (one.rank == rank) {
                one.granted = one.due;
            }
        }
    }

    private void grantParts(int rank, long all) {
        long left = chest.held;
        for (int i = 0; i < loans.size(); i++) {
            Loan one = loans.get(i);
            if (one.rank == rank) {
                one.grantPart(chest.held, all);
                left -= one.granted;
            }
        }
        // Each rest is below one whole, so fewer are left than there are loans.
        for (int i = 0; i < loans.size() && left > 0; i++) {
            Loan most = mostCut(rank);
            if (most == null) {
                return;
            }
            most.granted++;
            most.rest = 0;
            left--;
        }
    }

    private Loan mostCut(int rank) {
        Loan most = null;
        for (int i = 0; i < loans.size(); i++) {
            Loan one = loans.get(i);
            if (one.rank == rank && one.rest > 0 && (most == null || one.rest > most.rest)) {
                most = one;
            }
        }
        return most;
    }

    private void payGranted(int rank) {
        for (int i = 0; i < loans.size(); i++) {
            Loan one = loans.get(i);
            if (one.rank == rank && one.granted > 0) {
                one.due -= one.granted;
                chest.change(today, INTEREST_LINE, i, -one.granted);
            }
        }
    }

    /** The tape, and the reading of acts from it: token by token, so that the first fault met is the leftmost. */
    private static final class Reader {
        static final int TAPE = 2_000;
        private static final int MOST_CLAUSES = 40;
        private static final int MOST_OPEN = 10;
        private static final int OUT_OF_PLACE = 1;
        private static final int TOO_GREAT = 2;
        private static final int TOO_MANY = 3;

        private final byte[] tape = new byte[TAPE];
        int tapeSize = 0;
        int fault = 0;
        int faultPlace = NONE;

        private int length = 0;
        private int next = 0;
        private int token = END;
        private int tokenStart = 0;
        private int number = 0;

        // A step takes at least four bytes of text and three places here: more are never needed.
        private final int[] steps = new int[TAPE];
        private int stepsUsed = 0;

        void append(int four) {
            for (int shift = 24; shift >= 0; shift -= 8) {
                if (tapeSize >= 0 && tapeSize < tape.length) {
                    tape[tapeSize] = (byte) (four >> shift);
                    tapeSize++;
                }
            }
        }

        boolean readAct(Act read, int n) {
            length = n;
            next = 0;
            fault = 0;
            faultPlace = NONE;
            advance();
            for (int i = 0; i < TAPE && token != END; i++) {
                if (!readClause(read)) {
                    return false;
                }
            }
            return true;
        }

        private boolean refuse(int kind) {
            fault = kind;
            faultPlace = tokenStart;
            return false;
        }

        private boolean readClause(Act read) {
            if (token < FREE || token > ONCE) {
                return refuse(OUT_OF_PLACE);
            }
            if (read.clauses.size() >= MOST_CLAUSES) {
                return refuse(TOO_MANY);
            }
            Clause made = new Clause(token);
            advance();
            stepsUsed = 0;
            if (!readWhat(made) || !readIf() || !readSign(';')) {
                return false;
            }
            made.steps = Arrays.copyOf(steps, Math.max(stepsUsed, 0));
            read.clauses.add(made);
            return true;
        }

        private boolean readWhat(Clause made) {
            switch (made.word) {
                case TOLL:
                    return readToll(made);
                case TIMES:
                    return readTimes(made);
                case ONCE:
                    readManner(made, ALL, ALL);
                    return true;
                default:
                    return true;
            }
        }

        private boolean readToll(Clause made) {
            if (!readNumber(0)) {
                return false;
            }
            made.first = number;
            advance();
            readManner(made, EACH, SCORE);
            return true;
        }

        private boolean readTimes(Clause made) {
            if (!readNumber(0)) {
                return false;
            }
            made.first = number;
            advance();
            if (!readSign('/') || !readNumber(1)) {
                return false;
            }
            made.second = number;
            advance();
            return true;
        }

        private void readManner(Clause made, int one, int other) {
            if (token == one || token == other) {
                made.manner = token;
                advance();
            }
        }

        /** Looks at the number that must stand here, and leaves it to the caller to go on. */
        private boolean readNumber(int least) {
            if (token != NUMBER) {
                return refuse(OUT_OF_PLACE);
            }
            if (number < least || number > MILLION) {
                return refuse(TOO_GREAT);
            }
            return true;
        }

        private boolean readSign(int sign) {
            if (token != sign) {
                return refuse(OUT_OF_PLACE);
            }
            advance();
            return true;
        }

        private boolean readIf() {
            if (token != IF) {
                return true;
            }
            advance();
            return readAny(0);
        }

        private boolean readAny(int open) {
            if (!readBoth(open)) {
                return false;
            }
            for (int i = 0; i < TAPE && token == OR; i++) {
                advance();
                if (!readBoth(open)) {
                    return false;
                }
                addStep(OR, 0, 0);
            }
            return true;
        }

        private boolean readBoth(int open) {
            if (!readOne(open)) {
                return false;
            }
            for (int i = 0; i < TAPE && token == AND; i++) {
                advance();
                if (!readOne(open)) {
                    return false;
                }
                addStep(AND, 0, 0);
            }
            return true;
        }

        private boolean readOne(int open) {
            if (token == NOT || token == '(') {
                return open < MOST_OPEN ? readNested(open + 1) : refuse(TOO_MANY);
            }
            int fact = token;
            if (fact < MAIL || fact > KIND) {
                return refuse(OUT_OF_PLACE);
            }
            advance();
            if (fact <= BACK) {
                addStep(fact, '=', 1);
                return true;
            }
            return fact == KIND ? readKind() : readComparison(fact);
        }

        private boolean readNested(int open) {
            boolean isNot = token == NOT;
            advance();
            if (!isNot) {
                return readAny(open) && readSign(')');
            }
            if (!readOne(open)) {
                return false;
            }
            addStep(NOT, 0, 0);
            return true;
        }

        private boolean readKind() {
            if (!readSign('=')) {
                return false;
            }
            if (token < COACH || token > FOOT) {
                return refuse(OUT_OF_PLACE);
            }
            addStep(KIND, '=', token - COACH);
            advance();
            return true;
        }

        private boolean readComparison(int fact) {
            int relation = token;
            if (relation != '=' && relation != '<' && relation != '>') {
                return refuse(OUT_OF_PLACE);
            }
            advance();
            if (!readNumber(0)) {
                return false;
            }
            addStep(fact, relation, number);
            advance();
            return true;
        }

        private void addStep(int word, int relation, int against) {
            if (stepsUsed >= 0 && stepsUsed + 2 < steps.length) {
                steps[stepsUsed] = word;
                steps[stepsUsed + 1] = relation;
                steps[stepsUsed + 2] = against;
                stepsUsed += 3;
            }
        }

        private void advance() {
            for (; next < length && isBlank(byteAt(next)); next++) {
            }
            tokenStart = next;
            int first = byteAt(next);
            if (first < 0) {
                token = END;
            } else if (isLetter(first)) {
                for (; next < length && isLetter(byteAt(next)); next++) {
                }
                token = wordNumber(tokenStart, next);
            } else if (isDigit(first)) {
                number = 0;
                for (; next < length && isDigit(byteAt(next)); next++) {
                    number = Math.min(number * 10 + byteAt(next) - '0', MILLION + 1);
                }
                token = NUMBER;
            } else {
                token = SIGNS.indexOf((char) first) >= 0 ? first : STRANGE;
                next++;
            }
        }

        private int wordNumber(int from, int till) {
            int word = FREE;
            int at = from;
            boolean isAlike = true;
            for (int i = 0; i < WORDS.length(); i++) {
                int letter = WORDS.charAt(i);
                if (letter != ' ') {
                    isAlike = isAlike && at < till && byteAt(at) == letter;
                    at++;
                } else if (isAlike && at == till) {
                    return word;
                } else {
                    word++;
                    at = from;
                    isAlike = true;
                }
            }
            return STRANGE;
        }

        private int byteAt(int place) {
            return place >= 0 && place < length && place < tape.length ? tape[place] & 255 : END;
        }

        private static boolean isBlank(int sign) {
            return sign == 32 || sign == 10;
        }

        private static boolean isLetter(int sign) {
            return sign >= 'a' && sign <= 'z';
        }

        private static boolean isDigit(int sign) {
            return sign >= '0' && sign <= '9';
        }
    }

    private static final class Act {
        final int from;
        final ArrayList<Clause> clauses = new ArrayList<Clause>();

        Act(int from) {
            this.from = from;
        }
    }

    /**
     * A clause; its condition is steps of three places: a fact's word, a relation and a number; OR, AND and NOT stand
     * behind what they join, so that no step needs to know of brackets.
     */
    private static final class Clause {
        final int word;
        int manner = NONE;
        int first = 0;
        int second = 1;
        int[] steps = new int[0];

        Clause(int word) {
            this.word = word;
        }

        /** What is not joined yet stands in the bits of one long: ten open brackets leave some twenty at most. */
        boolean holdsOf(int[] facts) {
            if (steps.length == 0) {
                return true;
            }
            long bits = 0;
            for (int i = 0; i + 2 < steps.length; i += 3) {
                long last = bits & 1;
                if (steps[i] == NOT) {
                    bits ^= 1;
                } else if (steps[i] == OR) {
                    bits = (bits >> 1) | last;
                } else if (steps[i] == AND) {
                    bits = last == 1 ? bits >> 1 : bits >> 1 & ~1L;
                } else {
                    bits = (bits << 1) | (isTrue(facts, steps[i], steps[i + 1], steps[i + 2]) ? 1 : 0);
                }
            }
            return (bits & 1) == 1;
        }

        private static boolean isTrue(int[] facts, int word, int relation, int against) {
            int place = word - MAIL;
            int fact = place >= 0 && place < facts.length ? facts[place] : 0;
            if (relation == '=') {
                return fact == against;
            }
            return relation == '<' ? fact < against : fact > against;
        }
    }

    /** Finds what a pass would pay by an act, and by which clause. */
    private static final class Reckoner {
        int toll = 0;
        int by = NONE;

        // By the words' numbers less that of MAIL.
        private final int[] facts = new int[KIND - MAIL + 1];
        private final int[] kept = new int[Reader.MOST_CLAUSES];
        private int keptTimes = 0;
        private int onceHere = NONE;
        private int onceAll = NONE;

        void reckon(Act act, Traveller who, int gate, int day) {
            toll = 0;
            by = NONE;
            if (act == null) {
                return;
            }
            learn(who, gate, day);
            keptTimes = 0;
            onceHere = NONE;
            onceAll = NONE;
            for (int i = 0; i < act.clauses.size(); i++) {
                Clause one = act.clauses.get(i);
                if (one.holdsOf(facts)) {
                    if (one.word == FREE) {
                        by = i;
                        return;
                    }
                    if (one.word == TOLL) {
                        charge(act, i, who, gate, day);
                        return;
                    }
                    keep(one, i);
                }
            }
        }

        private void learn(Traveller who, int gate, int day) {
            note(MAIL, who.bits & 1);
            note(ARMY, who.bits >> 1 & 1);
            note(CHURCH, who.bits >> 2 & 1);
            note(FARM, who.bits >> 3 & 1);
            note(BACK, who.passedOn(gate) == day ? 1 : 0);
            note(WHEELS, who.wheels);
            note(BEASTS, who.beasts);
            note(GATE, gate);
            note(DAY, day % YEAR);
            note(KIND, who.kind);
        }

        private void note(int word, int fact) {
            int place = word - MAIL;
            if (place >= 0 && place < facts.length) {
                facts[place] = fact;
            }
        }

        private void keep(Clause one, int number) {
            if (one.word == TIMES) {
                if (keptTimes >= 0 && keptTimes < kept.length) {
                    kept[keptTimes] = number;
                    keptTimes++;
                }
            } else if (one.manner == ALL) {
                onceAll = onceAll == NONE ? number : onceAll;
            } else {
                onceHere = onceHere == NONE ? number : onceHere;
            }
        }

        private void charge(Act act, int number, Traveller who, int gate, int day) {
            int here = who.paidOn(gate) == day ? onceHere : NONE;
            int all = who.latestPaid == day ? onceAll : NONE;
            if (here != NONE && all != NONE) {
                by = Math.min(here, all);
            } else if (here != NONE || all != NONE) {
                by = Math.max(here, all);
            } else {
                by = number;
                toll = (int) timesKept(act, ahead(act.clauses.get(number), who));
            }
        }

        private static long ahead(Clause one, Traveller who) {
            long sum = one.first;
            if (one.manner == EACH) {
                sum *= who.beasts;
            } else if (one.manner == SCORE) {
                sum *= (who.beasts + 19) / 20;
            }
            return Math.min(sum, MILLION);
        }

        private long timesKept(Act act, long sum) {
            long changed = sum;
            for (int i = 0; i < keptTimes && i < kept.length; i++) {
                int number = kept[i];
                if (number >= 0 && number < act.clauses.size()) {
                    Clause one = act.clauses.get(number);
                    if (one.second > 0) {
                        changed = Math.min(changed * one.first / one.second, MILLION);
                    }
                }
            }
            return changed;
        }
    }

    private static final class Traveller {
        final int kind;
        final int wheels;
        final int beasts;
        final int bits;
        int latestPaid = NONE;
        // The latest days on which it passed each gate, and paid there.
        private final int[] passed = new int[MOST_GATES];
        private final int[] paid = new int[MOST_GATES];

        Traveller(int kind, int wheels, int beasts, int bits) {
            this.kind = kind;
            this.wheels = wheels;
            this.beasts = beasts;
            this.bits = bits;
            Arrays.fill(passed, NONE);
            Arrays.fill(paid, NONE);
        }

        int passedOn(int gate) {
            return gate >= 0 && gate < passed.length ? passed[gate] : NONE;
        }

        int paidOn(int gate) {
            return gate >= 0 && gate < paid.length ? paid[gate] : NONE;
        }

        void noteAt(int gate, int day, int toll) {
            if (gate < 0 || gate >= passed.length || gate >= paid.length) {
                return;
            }
            passed[gate] = day;
            if (toll > 0) {
                paid[gate] = day;
                latestPaid = day;
            }
        }

        /** The wear that a pass in dry weather does. */
        int harm() {
            int narrow = wheels < 6 ? 2 : 1;
            switch (kind) {
                case 0:
                    return 6 * narrow;
                case 1:
                    return 4 * narrow;
                case 2:
                    return 10 * narrow;
                case 3:
                    return 1;
                case 4:
                    return beasts;
                case 5:
                    return beasts / 4;
                default:
                    return 0;
            }
        }
    }

    private static final class Stretch {
        final int number;
        final int price;
        long worn = 0;

        Stretch(int number, int price) {
            this.number = number;
            this.price = price;
        }

        long loadTakes() {
            return Math.min(worn, LOAD);
        }

        // Both quotients are brought to one divisor, as they are not cut.
        boolean isWorthMoreThan(Stretch other) {
            return loadTakes() * other.price > other.loadTakes() * price;
        }
    }

    /** A gate; while it is let it has a tenant, else rent, surety and due day are 0. */
    private static final class Gate {
        final int number;
        final Stretch road;
        final ArrayList<Bid> bids = new ArrayList<Bid>();
        int passes = 0;
        Farmer tenant = null;
        int rent = 0;
        int surety = 0;
        int dueDay = 0;
        int rentsLeft = 0;

        Gate(int number, Stretch road) {
            this.number = number;
            this.road = road;
        }

        Bid bestBid() {
            Bid best = null;
            for (int i = 0; i < bids.size(); i++) {
                Bid one = bids.get(i);
                if (one.isGood() && (best == null || one.rent > best.rent)) {
                    best = one;
                }
            }
            return best;
        }

        void beginLease(Bid won, int quarters, int day) {
            tenant = won.bidder;
            tenant.purse -= won.surety;
            rent = won.rent;
            surety = won.surety;
            dueDay = day;
            rentsLeft = quarters;
            bids.clear();
        }

        void endLease() {
            tenant = null;
            rent = 0;
            surety = 0;
            dueDay = 0;
            rentsLeft = 0;
        }
    }

    private static final class Bid {
        final Farmer bidder;
        final int rent;
        final int surety;

        Bid(Farmer bidder, int rent, int surety) {
            this.bidder = bidder;
            this.rent = rent;
            this.surety = surety;
        }

        boolean isGood() {
            return surety >= rent && bidder.purse >= (long) rent + surety;
        }
    }

    private static final class Farmer {
        final int number;
        long purse;

        Farmer(int number, int purse) {
            this.number = number;
            this.purse = purse;
        }
    }

    private static final class Loan {
        final int rate;
        final int rank;
        int sum;
        long due = 0;
        // What it gets of the interest that is being paid, and what was cut of that.
        long granted = 0;
        long rest = 0;

        Loan(int sum, int rate, int rank) {
            this.sum = sum;
            this.rate = rate;
            this.rank = rank;
        }

        void growDue() {
            due += (long) sum * rate / 1_000;
        }

        void grantPart(long box, long all) {
            if (all > 0) {
                granted = due * box / all;
                rest = due * box % all;
            }
        }
    }

    /** The money of the trust, with its journal. */
    private static final class Box {
        // 512 calls of 20 loads, 8 gates' rents and 10 loans' interest of 9,999 days stay below.
        private static final int MOST_LINES = 12_000;

        long held = 0;
        int lines = 0;
        private int[] days = new int[64];
        private int[] kinds = new int[64];
        private int[] whos = new int[64];
        private long[] sums = new long[64];
        private long[] heldAfter = new long[64];

        void change(int day, int kind, int who, long sum) {
            held += sum;
            makeRoom();
            if (lines < 0 || lines >= days.length || lines >= kinds.length || lines >= whos.length
                    || lines >= sums.length || lines >= heldAfter.length) {
                return;
            }
            days[lines] = day;
            kinds[lines] = kind;
            whos[lines] = who;
            sums[lines] = sum;
            heldAfter[lines] = held;
            lines++;
        }

        private void makeRoom() {
            if (lines < days.length || lines >= MOST_LINES) {
                return;
            }
            int room = Math.min(2 * lines, MOST_LINES);
            days = Arrays.copyOf(days, room);
            kinds = Arrays.copyOf(kinds, room);
            whos = Arrays.copyOf(whos, room);
            sums = Arrays.copyOf(sums, room);
            heldAfter = Arrays.copyOf(heldAfter, room);
        }

        long told(int line, int what) {
            if (line < 0 || line >= days.length || line >= kinds.length || line >= whos.length
                    || line >= sums.length) {
                return NONE;
            }
            switch (what) {
                case 0:
                    return days[line];
                case 1:
                    return kinds[line];
                case 2:
                    return whos[line];
                default:
                    return sums[line];
            }
        }

        long heldBehind(int day) {
            for (int i = Math.min(lines, heldAfter.length) - 1; i >= 0; i--) {
                if (i < days.length && days[i] <= day) {
                    return heldAfter[i];
                }
            }
            return 0;
        }
    }
}
