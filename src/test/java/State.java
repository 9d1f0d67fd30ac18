/** All that can be asked of a trust, as one text, so that two trusts can be compared; it uses the trust up. */
final class State {
    private static final int DAYS_TO_COME = 500;

    private final Trust trust;
    private final StringBuilder told = new StringBuilder();

    private State(Trust trust) {
        this.trust = trust;
    }

    static String of(Trust trust) {
        State state = new State(trust);
        state.now();
        state.tape();
        state.passesOfToday();
        state.later();
        return state.told.toString();
    }

    private void tell(String name, long answer) {
        told.append(name).append(' ').append(answer).append("; ");
    }

    private void now() {
        for (int what = 0; what <= 9; what++) {
            tell("count " + what, trust.count(what));
        }
        tell("fault", trust.fault());
        tell("clause", trust.clause());
        int gates = trust.count(3);
        for (int gate = 0; gate < gates; gate++) {
            for (int what = 0; what <= 6; what++) {
                tell("gate " + gate + "." + what, trust.gateTold(gate, what));
            }
        }
        int stretches = trust.count(2);
        for (int stretch = 0; stretch < stretches; stretch++) {
            tell("wear " + stretch, trust.wear(stretch));
        }
        money();
        int lines = trust.count(7);
        for (int line = Math.max(0, lines - 10); line < lines; line++) {
            for (int what = 0; what <= 3; what++) {
                tell("line " + line + "." + what, trust.journal(line, what));
            }
        }
        int today = trust.count(0);
        for (int day : new int[] {0, Math.max(0, today - 1), today, 9_999}) {
            tell("box of " + day, trust.box(day));
            tell("force of " + day, trust.force(day));
        }
    }

    private void money() {
        int farmers = trust.count(5);
        for (int farmer = 0; farmer < farmers; farmer++) {
            tell("money " + farmer, trust.money(farmer));
        }
        int loans = trust.count(6);
        for (int loan = 0; loan < loans; loan++) {
            for (int what = 0; what <= 3; what++) {
                tell("loan " + loan + "." + what, trust.loan(loan, what));
            }
        }
    }

    /** What stands on the tape is told by what an act of it asks for. */
    private void tape() {
        if (trust.count(1) < 12) {
            tell("tape's act", trust.act(trust.count(8), 9_999));
            tell("tape's fault", trust.fault());
            askedOfAll(trust.count(1) - 1);
        }
    }

    private void passesOfToday() {
        for (String text : new String[] {"toll 1 if back;", "once; toll 1;", "once all; toll 1;"}) {
            if (trust.count(1) < 12) {
                askedOfAll(trust.tell(text, 9_999));
            }
        }
    }

    private void askedOfAll(int act) {
        int travellers = Math.min(3, trust.count(4));
        int gates = Math.min(3, trust.count(3));
        for (int traveller = 0; act >= 0 && traveller < travellers; traveller++) {
            for (int gate = 0; gate < gates; gate++) {
                tell("asked " + act + "." + traveller + "." + gate, trust.asked(act, traveller, gate));
            }
        }
    }

    private void later() {
        if (trust.count(0) + DAYS_TO_COME > 9_999) {
            return;
        }
        tell("later day", trust.wait(DAYS_TO_COME));
        tell("later lines", trust.count(7));
        tell("later rain", trust.count(9));
        tell("later box", trust.box(9_999));
        money();
    }
}
