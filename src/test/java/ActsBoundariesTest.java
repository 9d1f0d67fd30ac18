import java.util.List;
import java.util.function.Supplier;

/** The boundaries of part 1 of the document (the TAPE, ACTS, WORDS, NUMBERS, CLAUSES, FAULTS) and of promises 1 to 4 and 11. */
public final class ActsBoundariesTest {
    private static final int NONE = TurnpikeTrust.NONE;
    private static final int MIN = Integer.MIN_VALUE;
    private static final int MAX = Integer.MAX_VALUE;

    private static final String FORTY = "free;".repeat(40);
    private static final String B = "not ( mail army church farm back wheels beasts gate day kind";
    private static final String KINDS = "coach cart wagon horse cattle sheep foot";

    /** Each word of the document in a text where it may stand, and the place at which it stands there. */
    private static final String[][] WORDS = {
        {"free", "%s;"}, {"toll", "%s 5;"}, {"times", "%s 1/2;"}, {"once", "%s;"}, {"if", "free %s mail;"},
        {"each", "toll 5 %s;"}, {"score", "toll 5 %s;"}, {"all", "once %s;"}, {"or", "free if mail %s farm;"},
        {"and", "free if mail %s farm;"}, {"not", "free if %s farm;"}, {"mail", "free if %s;"}, {"army", "free if %s;"},
        {"church", "free if %s;"}, {"farm", "free if %s;"}, {"back", "free if %s;"}, {"wheels", "free if %s = 1;"},
        {"beasts", "free if %s = 1;"}, {"gate", "free if %s = 1;"}, {"day", "free if %s = 1;"},
        {"kind", "free if %s = foot;"}, {"coach", "free if kind = %s;"}, {"cart", "free if kind = %s;"},
        {"wagon", "free if kind = %s;"}, {"horse", "free if kind = %s;"}, {"cattle", "free if kind = %s;"},
        {"sheep", "free if kind = %s;"}, {"foot", "free if kind = %s;"},
    };

    /** What may stand behind the beginning of a text; "." for its end, "7" for a NUMBER. */
    private static final String[][] MAY_STAND = {
        {"", "free toll times once ."}, {" \n", "free toll times once ."}, {"free; ", "free toll times once ."},
        {"free ", "if ;"}, {"toll ", "7"}, {"toll 5 ", "each score if ;"}, {"toll 5 each ", "if ;"},
        {"toll 5 score ", "if ;"}, {"times ", "7"}, {"times 1 ", "/"}, {"times 1/", "7"}, {"times 1/2 ", "if ;"},
        {"once ", "all if ;"}, {"once all ", "if ;"}, {"free if ", B}, {"toll 5 if ", B}, {"toll 5 each if ", B},
        {"toll 5 score if ", B}, {"times 1/2 if ", B}, {"once if ", B}, {"once all if ", B}, {"free if not ", B},
        {"free if not not ", B}, {"free if (", B}, {"free if mail or ", B}, {"free if mail and ", B},
        {"free if (mail or ", B}, {"free if (mail and ", B}, {"free if mail ", "; or and"}, {"free if army ", "; or and"},
        {"free if church ", "; or and"}, {"free if farm ", "; or and"}, {"free if back ", "; or and"},
        {"free if not mail ", "; or and"}, {"free if (mail ", ") or and"}, {"free if (not mail ", ") or and"},
        {"free if ((mail) ", ") or and"}, {"free if (mail) ", "; or and"}, {"free if wheels ", "= < >"},
        {"free if beasts ", "= < >"}, {"free if gate ", "= < >"}, {"free if day ", "= < >"}, {"free if wheels = ", "7"},
        {"free if beasts < ", "7"}, {"free if gate > ", "7"}, {"free if day = ", "7"}, {"free if wheels = 1 ", "; or and"},
        {"free if (wheels = 1 ", ") or and"}, {"free if kind ", "="}, {"free if kind = ", KINDS},
        {"free if kind = foot ", "; or and"}, {"free if (kind = foot ", ") or and"}, {"once if mail ", "; or and"},
        {"toll 5 each if mail ", "; or and"}, {"times 1/2 if mail ", "; or and"},
    };

    /** Where a NUMBER stands, with what makes a whole text of it. */
    private static final String[][] NUMBERS = {{"toll ", ";"}, {"times ", "/2;"}, {"times 1/", ";"},
        {"free if wheels = ", ";"}, {"free if beasts < ", ";"}, {"free if gate > ", ";"}, {"free if day = ", ";"}};

    private ActsBoundariesTest() {
    }

    public static void main(String[] args) throws IllegalAccessException {
        Tests.run(ActsBoundariesTest.class);
    }

    private static void reads(String text, int answer, int place) {
        Trust x = new Trust();
        Due.is("act [" + text + "]", x.tell(text, 0), answer);
        Due.is("fault of [" + text + "]", x.fault(), place);
        Due.is("acts behind [" + text + "]", x.count(1), answer < 0 ? 0 : 1);
    }

    private static void isFine(String text) {
        reads(text, 0, NONE);
    }

    private static Trust withTape(int bytes) {
        Trust x = new Trust();
        for (int i = 0; i < bytes; i += 20) {
            x.feed(0x20202020, 0x20202020, 0x0A202020, 0x66726565, 0x3B202020);
        }
        return x;
    }

    private static Trust withActs(int acts) {
        Trust x = new Trust();
        for (int i = 0; i < acts; i++) {
            Due.is("act " + i, x.tell("toll " + i + ";", i), i);
        }
        return x;
    }

    // Promise 1: nothing of all this; DAY 0; an empty BOX.

    private static void promise01TheDayIs0() {
        Due.is("day", new Trust().count(0), 0);
    }

    private static void promise01TheBoxIsEmpty() {
        Due.is("box of today", new Trust().box(0), 0);
        Due.is("box of the last day", new Trust().box(9_999), 0);
    }

    private static void promise01NothingIsThereYet() {
        Trust x = new Trust();
        for (int what = 1; what <= 9; what++) {
            Due.is("count " + what, x.count(what), 0);
        }
        Due.is("fault", x.fault(), NONE);
        Due.is("clause", x.clause(), NONE);
        Due.is("force of day 0", x.force(0), NONE);
        Due.is("force of the last day", x.force(9_999), NONE);
        Due.is("loads laid", x.mend(20), 0);
        Due.is("a year without loans and gates", x.wait(365), 365);
        Due.is("its lines", x.count(7), 0);
    }

    private static void promise01NoNumberIsAnythingYet() {
        Supplier<Trust> made = Trust::new;
        Due.refusesArgument("a byte of an empty tape", made, x -> x.act(1, 0));
        Due.refusesIndex("a gate on stretch 0", made, x -> x.gate(0));
        Due.refusesIndex("a pass", made, x -> x.pass(0, 0));
        Due.refusesIndex("asked", made, x -> x.asked(0, 0, 0));
        Due.refusesIndex("a bid", made, x -> x.bid(0, 0, 1, 1));
        Due.refusesIndex("let", made, x -> x.let(0, 1));
        Due.refusesIndex("of gate 0", made, x -> x.gateTold(0, 0));
        Due.refusesIndex("repay", made, x -> x.repay(0, 1));
        Due.refusesIndex("of loan 0", made, x -> x.loan(0, 0));
        Due.refusesIndex("money of farmer 0", made, x -> x.money(0));
        Due.refusesIndex("wear of stretch 0", made, x -> x.wear(0));
        Due.refusesIndex("line 0", made, x -> x.journal(0, 0));
    }

    private static void promise01ObjectsAreApart() {
        String fresh = State.of(new Trust());
        Trust other = new Trust();
        Made.busy();
        Made.full();
        Due.same("a new object beside others", State.of(other), fresh);
        Due.same("a new object behind others", State.of(new Trust()), fresh);
    }

    // Promise 2: twenty bytes, of each number the highest first; NONE, doing nothing, above 2,000.

    private static void promise02TwentyBytesComeEachTime() {
        Trust x = new Trust();
        for (int i = 1; i <= 99; i++) {
            Due.is("feed " + i, x.feed(i, -i, MIN, MAX, 0), 20 * i);
        }
        Due.is("bytes", x.count(8), 1_980);
    }

    private static void promise02Exactly2000BytesAreTaken() {
        Trust x = withTape(1_980);
        Due.is("the 100th feed", x.feed(0, 0, 0, 0, 0), 2_000);
        Due.is("bytes", x.count(8), 2_000);
    }

    private static void promise02MoreThan2000IsNone() {
        Trust x = withTape(2_000);
        Due.is("the 101st feed", x.feed(0, 0, 0, 0, 0), NONE);
        Due.is("the 102nd feed", x.feed(0, 0, 0, 0, 0), NONE);
        Due.is("bytes", x.count(8), 2_000);
    }

    private static void promise02ARefusedFeedDoesNothing() {
        Supplier<Trust> full = () -> {
            Trust x = new Trust();
            x.put(" ".repeat(1_991) + "toll 7;  ");
            return x;
        };
        Due.leavesAll("a feed of a full tape", full, "-1", x -> x.feed(0x21212121, -1, -1, -1, -1));
    }

    private static void promise02OfEachNumberTheHighestFirst() {
        for (int place = 0; place < 20; place++) {
            int[] fours = {0x20202020, 0x20202020, 0x20202020, 0x20202020, 0x20202020};
            int shift = 24 - place % 4 * 8;
            fours[place / 4] = fours[place / 4] & ~(255 << shift) | '!' << shift;
            Trust x = new Trust();
            x.feed(fours[0], fours[1], fours[2], fours[3], fours[4]);
            Due.is("a strange byte", x.act(20, 0), -9);
            Due.is("its place", x.fault(), place);
        }
    }

    private static void promise02AFeedGoesBehindTheOnesAheadOfIt() {
        Trust x = new Trust();
        x.put(" ".repeat(1_980));
        x.put("free if mail     ! ;");
        Due.is("act", x.act(2_000, 0), -9);
        Due.is("fault", x.fault(), 1_997);
    }

    private static void promise02AFeedBehindAnActIsTheFirst() {
        Trust x = withTape(60);
        x.act(60, 0);
        Due.is("feed", x.feed(0x21202020, 0, 0, 0, 0), 20);
        x.act(20, 0);
        Due.is("fault", x.fault(), 0);
    }

    private static void promise02AFullTapeTakesAgainBehindAnAct() {
        Trust x = withTape(2_000);
        x.act(0, 0);
        Due.is("feed", x.feed(0, 0, 0, 0, 0), 20);
    }

    // Promise 3: n is 0 to the TAPE's bytes, the DAY 0 to 9,999; 12 at most.

    private static void promise03LengthOf0OfAnEmptyTape() {
        Due.is("act", new Trust().act(0, 0), 0);
        for (int n : new int[] {1, -1, MIN, MAX, 20, 2_000, 2_001}) {
            Due.refusesArgument("act of " + n, Trust::new, x -> x.act(n, 0));
        }
    }

    private static void promise03LengthUpToTheTapesBytes() {
        Supplier<Trust> made = () -> withTape(40);
        Due.is("act of 0", made.get().act(0, 0), 0);
        Due.is("act of 40", made.get().act(40, 0), 0);
        for (int n : new int[] {-1, 41, MIN, MAX, 2_000}) {
            Due.refusesArgument("act of " + n, made, x -> x.act(n, 0));
        }
    }

    private static void promise03LengthUpToAFullTape() {
        Supplier<Trust> made = () -> {
            Trust x = new Trust();
            x.put(" ".repeat(1_995) + "free;");
            return x;
        };
        Due.is("act of 2000", made.get().act(2_000, 0), 0);
        Due.is("act of 1999 lacks the ;", made.get().act(1_999, 0), -9);
        Due.refusesArgument("act of 2001", made, x -> x.act(2_001, 0));
    }

    private static void promise03DayOf0To9999() {
        Due.is("act on day 0", new Trust().act(0, 0), 0);
        Due.is("act on day 9999", new Trust().act(0, 9_999), 0);
        for (int day : new int[] {-1, 10_000, MIN, MAX}) {
            Due.refusesArgument("act on day " + day, Made::busy, x -> x.act(20, day));
        }
    }

    private static void promise03ADayThatIsOverWillDo() {
        Trust x = new Trust();
        x.wait(100);
        Due.is("act on day 0", x.act(0, 0), 0);
        Due.is("force of today", x.force(100), 0);
    }

    private static void promise03TwelveActs() {
        Trust x = withActs(12);
        Due.is("acts", x.count(1), 12);
        Due.is("force of the 12th", x.force(9_999), 11);
    }

    private static void promise03NoThirteenthAct() {
        Supplier<Trust> made = () -> {
            Trust x = withActs(12);
            x.put("free; !");
            return x;
        };
        Due.refusesState("a 13th", made, x -> x.act(5, 0));
        Due.refusesState("a 13th of nothing", made, x -> x.act(0, 9_999));
        Due.refusesState("a 13th with a fault", made, x -> x.act(7, 0));
        Trust x = made.get();
        Due.state("a 13th", () -> x.act(7, 0));
        Due.is("tape", x.count(8), 20);
        Due.is("fault", x.fault(), NONE);
    }

    private static void promise03AFaultIsNoAct() {
        Trust x = new Trust();
        for (int i = 0; i < 30; i++) {
            Due.is("a faulty one", x.tell("free", 0), -9);
        }
        for (int i = 0; i < 12; i++) {
            Due.is("act " + i, x.act(0, 0), i);
            if (i < 11) {
                x.tell("x", 0);
            }
        }
        Due.is("acts", x.count(1), 12);
    }

    private static void promise03AFaultIsNotInForce() {
        Trust x = new Trust();
        x.tell("free;free", 0);
        Due.is("force", x.force(0), NONE);
        x.act(0, 0);
        x.tell("toll 1000001;", 0);
        Due.is("force of the one ahead", x.force(0), 0);
    }

    private static void promise03FaultLess10() {
        reads("x", -9, 0);
        reads("toll 1000001;", -8, 5);
        reads(FORTY + "free;", -7, 200);
    }

    private static void promise03TheTapeIsEmptyBehindAnAct() {
        for (int n : new int[] {0, 13, 20, 33, 40}) {
            Trust x = withTape(40);
            x.act(n, 0);
            Due.is("tape behind act of " + n, x.count(8), 0);
            Due.argument("one more byte", () -> x.act(1, 0));
        }
    }

    private static void promise03TheTapeIsEmptyBehindAFault() {
        Trust x = withTape(40);
        Due.is("act", x.act(16, 0), -9);
        Due.is("tape", x.count(8), 0);
    }

    private static void promise03TheFirstBytesAlone() {
        Trust x = new Trust();
        x.put("toll 1;toll 2;!toll 1000001;");
        Due.is("act", x.act(14, 0), 0);
        Due.is("fault", x.fault(), NONE);
        Trust y = new Trust();
        y.stretch(1);
        y.gate(0);
        y.traveller(Made.FOOT, 0, 0, 0);
        y.put("toll 123;");
        Due.is("a word's and a number's end", y.act(7, 0), -9);
        Due.is("fault", y.fault(), 7);
        y.put("toll 1;23;");
        y.act(7, 0);
        Due.is("toll", y.pass(0, 0), 1);
    }

    // Promise 4: the place of the latest act()'s FAULT; NONE without.

    private static void promise04NoneAheadOfAnyAct() {
        Due.is("fault", withTape(20).fault(), NONE);
    }

    private static void promise04TheFirstPlaceIs0() {
        reads("!", -9, 0);
        reads("1", -9, 0);
    }

    private static void promise04TheLastPlaceIsTheTextsLength() {
        reads(" ".repeat(1_996) + "free", -9, 2_000);
        reads(" ".repeat(1_999) + "!", -9, 1_999);
    }

    private static void promise04OfTheLatestAct() {
        Trust x = new Trust();
        x.tell("  !", 0);
        Due.is("the first", x.fault(), 2);
        x.tell("free !", 0);
        Due.is("the second", x.fault(), 5);
        x.tell("free;", 0);
        Due.is("a fine one", x.fault(), NONE);
        x.tell("!", 0);
        Due.is("the last", x.fault(), 0);
        x.act(0, 0);
        Due.is("an empty one", x.fault(), NONE);
    }

    private static void promise04NothingElseChangesIt() {
        Trust x = new Trust();
        x.tell(" !", 0);
        x.feed(0, 0, 0, 0, 0);
        x.stretch(1);
        x.gate(0);
        x.traveller(0, 0, 0, 0);
        x.pass(0, 0);
        x.wait(1);
        Due.is("fault", x.fault(), 1);
        Due.is("asked twice", x.fault(), 1);
    }

    // Promise 11, and "in force" of part 1.

    private static void promise11DayOf0To9999() {
        Due.is("day 0", withActs(1).force(0), 0);
        Due.is("day 9999", withActs(1).force(9_999), 0);
        for (int day : new int[] {-1, 10_000, MIN, MAX}) {
            Due.refusesArgument("day " + day, Made::busy, x -> x.force(day));
        }
    }

    private static void part1InForceFromItsDayOn() {
        for (int from : new int[] {0, 1, 365, 9_998, 9_999}) {
            Trust x = new Trust();
            x.act(0, from);
            if (from > 0) {
                Due.is("the day ahead of " + from, x.force(from - 1), NONE);
                Due.is("day 0 ahead of " + from, x.force(0), NONE);
            }
            Due.is("day " + from, x.force(from), 0);
            Due.is("the last day of " + from, x.force(9_999), 0);
        }
    }

    private static void part1TheGreatestDayThatIsNotLater() {
        Trust x = new Trust();
        int[] from = {50, 10, 90, 30, 70, 20};
        for (int day : from) {
            x.act(0, day);
        }
        int[][] due = {{9, NONE}, {10, 1}, {19, 1}, {20, 5}, {29, 5}, {30, 3}, {49, 3}, {50, 0}, {69, 0}, {70, 4}, {89, 4},
            {90, 2}, {9_999, 2}};
        for (int[] d : due) {
            Due.is("force of " + d[0], x.force(d[0]), d[1]);
        }
    }

    private static void part1OfOneDayTheOneToldLast() {
        Trust x = new Trust();
        x.act(0, 5);
        x.act(0, 5);
        Due.is("of two", x.force(5), 1);
        x.act(0, 4);
        Due.is("an earlier one told later", x.force(5), 1);
        x.act(0, 5);
        Due.is("of three", x.force(6), 3);
        Due.is("ahead of them", x.force(4), 2);
        Trust y = new Trust();
        y.act(0, 0);
        y.act(0, 0);
        Due.is("of two of day 0", y.force(0), 1);
    }

    private static void part1APassIsByTheActOfItsDay() {
        Trust x = Made.road("toll 1;");
        x.tell("toll 2;", 3);
        x.tell("toll 3;", 4);
        x.tell("toll 4;", 4);
        int[] due = {1, 1, 1, 2, 4, 4};
        for (int day = 0; day < due.length; day++) {
            Due.is("toll of day " + day, x.pass(0, 0), due[day]);
            x.wait(1);
        }
    }

    private static void part1AnActOfTodayIsInForceAtOnce() {
        Trust x = Made.road("toll 1;");
        x.wait(7);
        x.pass(0, 0);
        x.tell("toll 2;", 7);
        Due.is("toll", x.pass(0, 0), 2);
        x.tell("toll 3;", 6);
        Due.is("toll by the greatest day", x.pass(0, 0), 2);
    }

    // Part 1: WORDS, NUMBERS, signs and blanks.

    private static void part1WordsAreSmallLetters() {
        for (String[] word : WORDS) {
            int place = word[1].indexOf('%');
            isFine(String.format(word[1], word[0]));
            reads(String.format(word[1], Character.toUpperCase(word[0].charAt(0)) + word[0].substring(1)), -9, place);
            reads(String.format(word[1], word[0].toUpperCase()), -9, place);
        }
    }

    private static void part1WordsAreAsManyLettersAsStandThere() {
        for (String[] word : WORDS) {
            int place = word[1].indexOf('%');
            reads(String.format(word[1], word[0] + "a"), -9, place);
            reads(String.format(word[1], word[0] + "z"), -9, place);
            reads(String.format(word[1], "a" + word[0]), -9, place);
            reads(String.format(word[1], word[0] + word[0]), -9, place);
            reads(String.format(word[1], word[0].substring(0, word[0].length() - 1)), -9, place);
            reads(String.format(word[1], word[0].substring(1)), -9, place);
            reads(String.format(word[1], word[0].charAt(0) + " " + word[0].substring(1)), -9, place);
        }
        reads("freeif mail;", -9, 0);
        reads("free ifmail;", -9, 5);
        reads("free if mailor farm;", -9, 8);
        reads("free if notmail;", -9, 8);
        reads("onceall;", -9, 0);
        reads("toll 5eachif mail;", -9, 6);
    }

    private static void part1ALongWordIsOneWord() {
        reads("free if " + "mail".repeat(497) + ";", -9, 8);
        reads("free" + "x".repeat(1_996), -9, 0);
    }

    private static void part1NoBlanksAreNeededAtSigns() {
        isFine("toll 5each;toll 5score;toll 5if mail;times 1/2if mail;once;free if(mail)or(farm)and not(back);");
        isFine("free if wheels=4or wheels<4and day>1and kind=foot;");
    }

    private static void part1BlanksMayStandBetween() {
        isFine(" \n free \n\n if \n ( mail \n or ( wheels \n = 4 ) ) \n ; \n times \n 1 \n / \n 2 \n ; \n once \n all \n ; \n ");
        isFine(" ".repeat(1_990) + "toll 5;\n\n\n");
    }

    private static void part1ABlankPartsANumber() {
        reads("toll 1 2;", -9, 7);
        reads("toll 1\n2;", -9, 7);
        reads("free if wheels = 1 2;", -9, 19);
    }

    private static void part1OnlyTheBytes32And10AreBlanks() {
        for (int sign = 0; sign < 256; sign++) {
            boolean isBlank = sign == 32 || sign == 10;
            boolean isLetter = sign >= 'a' && sign <= 'z';
            String text = "free" + (char) sign + ";";
            reads(text, isBlank ? 0 : -9, isBlank ? NONE : isLetter ? 0 : sign == ';' ? 5 : 4);
            reads(String.valueOf((char) sign), isBlank ? 0 : -9, isBlank ? NONE : 0);
        }
    }

    private static void part1OnlyTheBytes48To57AreDigits() {
        for (int sign = 0; sign < 256; sign++) {
            boolean isFine = sign == 32 || sign == 10 || sign >= '0' && sign <= '9';
            reads("toll 1" + (char) sign + ";", isFine ? 0 : -9, isFine ? NONE : sign == ';' ? 7 : 6);
        }
    }

    private static void part1OnlyThreeSignsCompare() {
        for (int sign = 0; sign < 256; sign++) {
            boolean isFine = sign == '=' || sign == '<' || sign == '>';
            boolean isLetter = sign >= 'a' && sign <= 'z';
            boolean isBlank = sign == 32 || sign == 10;
            reads("free if gate" + (char) sign + "1;", isFine ? 0 : -9, isFine ? NONE : isLetter ? 8 : isBlank ? 13 : 12);
        }
    }

    private static void part1ANumberUpToAMillion() {
        for (String[] one : NUMBERS) {
            for (String number : List.of("1", "9", "10", "999999", "1000000", "0001000000", "0".repeat(1_900) + "1000000")) {
                isFine(one[0] + number + one[1]);
            }
            for (String number : List.of("1000001", "1000002", "9999999", "10000000", "0001000001", "0".repeat(1_900) + "1000001")) {
                reads(one[0] + number + one[1], -8, one[0].length());
            }
        }
    }

    private static void part1ANumberAboveWhatAnIntHolds() {
        for (String[] one : NUMBERS) {
            for (String number : List.of("2147483647", "2147483648", "4294967295", "4294967296", "4294967297", "4295967296",
                    "9223372036854775807", "9223372036854775808", "18446744073709551616", "18446744073709551617",
                    "1" + "0".repeat(64), "9".repeat(1_900))) {
                reads(one[0] + number + one[1], -8, one[0].length());
            }
        }
    }

    private static void part1ANumberOf0() {
        for (String[] one : NUMBERS) {
            if (!one[0].equals("times 1/")) {
                isFine(one[0] + "0" + one[1]);
                isFine(one[0] + "000" + one[1]);
            }
        }
    }

    private static void part1TheSecondNumberOfTimesIsNot0() {
        isFine("times 0/1;");
        isFine("times 1/1;");
        isFine("times 1/01;");
        reads("times 1/0;", -8, 8);
        reads("times 1/000;", -8, 8);
        reads("times 0/0;", -8, 8);
        reads("times 1/ 0", -8, 9);
        reads("times 1 / \n 0 if mail;", -8, 12);
    }

    private static void part1LeadingNoughtsAreNoValue() {
        Due.is("toll", Made.road("toll " + "0".repeat(1_500) + "12;").pass(0, 0), 12);
        Due.is("condition", Made.road("toll 7 if wheels = 0004;").pass(0, 0), 7);
    }

    // Part 1: CLAUSES, and what can stand where.

    private static void part1AnActMayHaveNoClause() {
        isFine("");
        isFine(" ");
        isFine("\n");
        isFine(" ".repeat(2_000));
        Due.is("its toll", Made.road("").pass(0, 0), 0);
    }

    private static void part1FortyClauses() {
        isFine("free;".repeat(39));
        isFine(FORTY);
        isFine(FORTY + " \n");
        isFine("once all if not(mail);".repeat(40));
    }

    private static void part1TheLastOfFortyIsClause39() {
        Trust x = Made.road("free if mail;".repeat(39) + "toll 5;");
        Due.is("toll", x.pass(0, 0), 5);
        Due.is("clause", x.clause(), 39);
    }

    private static void part1TheFortyFirstClauseAtItsFirstWord() {
        for (String word : List.of("free", "toll", "times", "once")) {
            reads(FORTY + word, -7, 200);
            reads(FORTY + " \n " + word, -7, 203);
        }
        reads(FORTY + "toll 1000001;", -7, 200);
        reads(FORTY + "free free", -7, 200);
        reads("free;".repeat(45), -7, 200);
    }

    private static void part1ClausesWithFaultsAreCountedToo() {
        reads("free;".repeat(39) + "free x;", -9, 200);
        reads("free;".repeat(39) + "toll 1000001;free;", -8, 200);
    }

    private static void part1ClausesAreNumberedFrom0On() {
        Trust x = Made.road("toll 1 if mail; toll 2 if farm; toll 3;", Made.CART, 4, 1, 1);
        x.traveller(Made.CART, 4, 1, 8);
        x.traveller(Made.CART, 4, 1, 0);
        for (int i = 0; i < 3; i++) {
            Due.is("toll", x.pass(i, 0), i + 1);
            Due.is("clause", x.clause(), i);
        }
    }

    private static void part1WithoutIfCHolds() {
        for (String text : List.of("toll 5;", "once;toll 5;", "toll 5 each;", "toll 5 score;", "times 1/1;toll 5;")) {
            Due.is(text, Made.road(text).pass(0, 0), 5);
        }
        Due.is("free", Made.road("free;toll 5;").pass(0, 0), 0);
    }

    private static void part1WhatCantStandThere() {
        String all = "free toll times once if each score all or and not mail army church farm back wheels beasts gate day "
                + "kind " + KINDS + " 7 ( ) ; / = < > x { ! .";
        for (String[] one : MAY_STAND) {
            List<String> mayStand = List.of(one[1].split(" "));
            for (String token : all.split(" ")) {
                String text = one[0] + (token.equals(".") ? "" : token);
                boolean isWhole = token.equals(";") || token.equals(".");
                if (!mayStand.contains(token)) {
                    reads(text, -9, one[0].length());
                    reads(text + (token.equals(".") ? "" : " 1000001 ! free"), -9, one[0].length());
                } else if (isWhole) {
                    isFine(text);
                } else {
                    reads(text, -9, text.length());
                }
            }
        }
    }

    private static void part1EndingTooEarlyIsAtTheTextsLength() {
        String text = "once all if not ( mail or wheels < 4 and kind = foot ) ;";
        int[] wordsWhole = {4, 8, 11, 15, 17, 22, 25, 32, 34, 36, 40, 45, 47, 52, 54};
        for (int end : wordsWhole) {
            reads(text.substring(0, end), -9, end);
            reads(text.substring(0, end) + " \n ", -9, end + 3);
        }
        isFine(text);
    }

    private static void part1TheTextsLengthIsNotTheTapes() {
        Trust x = new Trust();
        x.put("free ; free;");
        Due.is("act", x.act(5, 0), -9);
        Due.is("fault", x.fault(), 5);
    }

    // Part 1: which FAULT.

    private static void part1TheFirstFaultFromTheLeft() {
        reads("toll 1000001 x;", -8, 5);
        reads("toll 1 x 1000001;", -9, 7);
        reads("times 1000001/0;", -8, 6);
        reads("toll 1000001; toll 1000001;", -8, 5);
        reads("free !! ;", -9, 5);
        reads("free x; toll 1000001;", -9, 5);
        reads(FORTY + "free;free;", -7, 200);
        reads("free if wheels = 1000001 and " + "(".repeat(11), -8, 17);
        reads("free if " + "(".repeat(11) + "wheels = 1000001", -7, 18);
        reads("free if " + "(".repeat(11) + "!", -7, 18);
    }

    private static void part1OfOnePlaceTheLeastFault() {
        reads("1000001;", -9, 0);
        reads("free 1000001;", -9, 5);
        reads("toll 1 1000001;", -9, 7);
        reads("free if kind = 1000001;", -9, 15);
        reads("times 1 1000001;", -9, 8);
        reads(FORTY + "mail;", -9, 200);
        reads(FORTY + "freex;", -9, 200);
        reads(FORTY + "1000001;", -9, 200);
        reads("free if " + "(".repeat(10) + "mail (", -9, 23);
        reads("free if " + "(".repeat(10) + "mail not", -9, 23);
        reads("free if " + "(".repeat(10) + "wheels (", -9, 25);
        reads("free if " + "(".repeat(10) + "kind = not", -9, 25);
        reads("free if " + "(".repeat(10) + "1000001", -9, 18);
    }

    private static void part1TenOpenAtOneTime() {
        isFine("free if " + "(".repeat(10) + "mail" + ")".repeat(10) + ";");
        isFine("free if " + "not ".repeat(10) + "mail;");
        isFine("free if " + "not(".repeat(5) + "mail" + ")".repeat(5) + ";");
        isFine("free if " + "(".repeat(9) + "not mail" + ")".repeat(9) + ";");
        isFine("free if " + "not ".repeat(9) + "(mail);");
    }

    private static void part1NoElevenOpenAtOneTime() {
        reads("free if " + "(".repeat(11) + "mail" + ")".repeat(11) + ";", -7, 18);
        reads("free if " + "not ".repeat(11) + "mail;", -7, 48);
        reads("free if " + "not(".repeat(5) + "(mail" + ")".repeat(6) + ";", -7, 28);
        reads("free if " + "not(".repeat(5) + " not mail" + ")".repeat(5) + ";", -7, 29);
        reads("free if " + "(".repeat(10) + "not mail" + ")".repeat(10) + ";", -7, 18);
        reads("free if " + "not ".repeat(10) + "(mail);", -7, 48);
        reads("free if " + "(".repeat(40), -7, 18);
        reads("free if mail or " + "(".repeat(11), -7, 26);
    }

    private static void part1ABracketIsOpenTillItsClose() {
        isFine("free if (mail)" + " or (mail)".repeat(20) + ";");
        String ten = "(".repeat(10) + "mail" + ")".repeat(10);
        isFine("free if " + ten + " and " + ten + " or " + ten + "; free if " + ten + ";");
        isFine("free if " + "(".repeat(9) + "(mail) or (farm)" + ")".repeat(9) + ";");
        reads("free if " + "(".repeat(9) + "(mail) or ((farm))" + ")".repeat(9) + ";", -7, 28);
    }

    private static void part1ANotIsOpenTillItsBEnds() {
        isFine("free if not mail" + " or not mail".repeat(20) + ";");
        String ten = "not ".repeat(10) + "mail";
        isFine("free if " + ten + " and " + ten + " or " + ten + "; free if " + ten + ";");
        isFine("free if " + "(".repeat(9) + "not mail and not wheels = 4 or not kind = foot and (farm)" + ")".repeat(9) + ";");
        isFine("free if " + "(".repeat(8) + "not (mail) and not (farm)" + ")".repeat(8) + ";");
        isFine("free if " + "(".repeat(8) + "not not mail and not (farm)" + ")".repeat(8) + ";");
        reads("free if " + "(".repeat(9) + "not (mail)" + ")".repeat(9) + ";", -7, 21);
        reads("free if " + "(".repeat(8) + "not (mail and not farm)" + ")".repeat(8) + ";", -7, 30);
        reads("free if " + "(".repeat(8) + "not (mail and (farm))" + ")".repeat(8) + ";", -7, 30);
    }

    private static void part1AWholeTapeOfOneCondition() {
        StringBuilder text = new StringBuilder("toll 5 if army");
        while (text.length() + 8 < 1_990) {
            text.append(" or farm");
        }
        Due.is("none of them", Made.road(text + ";", Made.CART, 4, 1, 1).pass(0, 0), 0);
        Due.is("the last of them", Made.road(text + " or mail;", Made.CART, 4, 1, 1).pass(0, 0), 5);
    }
}
