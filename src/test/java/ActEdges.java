/** Promises 10 to 14, sentence by sentence, where one names a bound: at it, just inside, just outside; what is refused. */
public final class ActEdges extends Checks {
    private static final int PLAIN = 0, YOUNG = 1;
    private static final String SEVEN = "n1;n2;n3;n4;n5;n6;n7;";

    public static void main(String[] args) {
        runAll(ActEdges.class);
    }

    // ---- promise 10: pass

    static void promise10_nightsAreFrom1To20() {
        bounds(Checks::busy, "pass(?)", 1, 20, NightLots::pass);
        for (int n : new int[] {1, 2, 19, 20}) {
            NightLots lots = atNight(5);
            due("pass(" + n + ")", lots.pass(n), 0);
            due("count(1)", lots.count(1), 5 + n);
            due("house(0, 4)", lots.house(0, 4), (5 + n) % 2);
        }
    }

    static void promise10_theNightIs999AtMost() {
        NightLots lots = atNight(979);
        due("pass(20) ahead of night 979", lots.pass(20), 0);
        due("count(1)", lots.count(1), 999);
        lots = atNight(980);
        due("pass(20) ahead of night 980", lots.pass(20), NO);
        due("pass(19) ahead of night 980", lots.pass(19), 0);
        due("count(1)", lots.count(1), 999);
        lots = atNight(998);
        due("pass(2) ahead of night 998", lots.pass(2), NO);
        due("pass(1) ahead of night 998", lots.pass(1), 0);
        due("count(1)", lots.count(1), 999);
        due("pass(1) ahead of night 999", lots.pass(1), NO);
    }

    static void promise10_aboveNight999NothingChanges() {
        refused(() -> atNight(980), "pass(20)", NO, lots -> lots.pass(20));
        refused(() -> atNight(998), "pass(2)", NO, lots -> lots.pass(2));
        refused(() -> atNight(999), "pass(1)", NO, lots -> lots.pass(1));
        refused(() -> atNight(999), "pass(20)", NO, lots -> lots.pass(20));
    }

    static void promise10_badGoesAheadOfNo() {
        for (int n : new int[] {-1, 0, 21, Integer.MIN_VALUE, Integer.MAX_VALUE}) {
            refused(() -> atNight(999), "pass(" + n + ")", BAD, lots -> lots.pass(n));
        }
        refused(() -> atNight(980), "pass(21)", BAD, lots -> lots.pass(21));
    }

    static void promise10_atNight999TheOtherActsGoOn() {
        NightLots lots = atNight(999);
        due("swap(0, 1)", lots.swap(0, 1), 0);
        due("rest(0)", lots.rest(0), 35);
        due("burden(0, 1)", lots.burden(0, 1), 0);
        due("undo()", lots.undo(), 7);
        due("count(1)", lots.count(1), 999);
    }

    /** House 0 has hour 0 in the first night; whether it keeps it is told by gaps(), by pass() and by what it does to it. */
    private static void dueKept(String text, boolean kept) {
        NightLots lots = laid(text);
        due("gaps() of \"" + text + "\", at hour 0", lots.gaps() & 1, kept ? 0 : 1);
        lots.pass(1);
        due("house(0, 5) of \"" + text + "\"", lots.house(0, 5), kept ? 0 : 1);
        due("house(0, 3) of \"" + text + "\"", lots.house(0, 3), kept ? 2 : 0);
        due("had(0, 0) of \"" + text + "\"", lots.had(0, 0), 1);
    }

    static void promise10_keptIsWhatIsAsHeavyAsTheStrengthOrLess() {
        dueKept("n9;n0;h0,10,0;h0,40,0;", true);
        dueKept("n10;n0;h0,10,0;h0,40,0;", true);
        dueKept("n11;n0;h0,10,0;h0,40,0;", false);
        dueKept("n0;n0;h0,0,0;h0,40,0;", true);
        dueKept("n1;n0;h0,0,0;h0,40,0;", false);
        dueKept("n20;n0;h0,20,0;h0,40,0;", true);
        dueKept("n20;n0;h0,19,0;h0,40,0;", false);
    }

    static void promise10_keptByAYoungOne() {
        dueKept("n5;n0;h1,10,0;h0,40,0;", true);
        dueKept("n6;n0;h1,11,0;h0,40,0;", false);
        dueKept("n6;n0;h1,12,0;h0,40,0;", true);
        dueKept("n20;n0;h1,39,0;h0,40,0;", false);
        dueKept("n20;n0;h1,40,0;h0,40,0;", true);
    }

    static void promise10_keptByAGayOne() {
        dueKept("n13;n0;h3,10,0;h0,40,0;", true);
        dueKept("n14;n0;h3,10,0;h0,40,0;", false);
        dueKept("n3;n0;h3,0,0;h0,40,0;", true);
        dueKept("n4;n0;h3,0,0;h0,40,0;", false);
        NightLots middle = laid("n0;n11;n0;h0,0,0;h3,10,0;h0,0,0;");
        due("gaps() in the middle, of 11", middle.gaps(), 2);
        middle.burden(1, 10);
        due("gaps() in the middle, of 10", middle.gaps(), 0);
    }

    static void promise10_keptByAWidowedOneByWhatItHadAheadOfThisNight() {
        dueKept("n10;n0;h2,10,0;h0,40,0;", true);
        // None at first: this night's own hour is not yet had.
        dueKept("n20;n0;h2,10,0;h0,40,0;", false);
        for (int strength : new int[] {9, 10, 11}) {
            NightLots lots = laid("n20;n0;h2," + strength + ",0;h0,40,0;");
            lots.pass(1);
            lots.swap(0, 1);
            due("gaps(), 20 being half, of strength " + strength, lots.gaps(), strength < 10 ? 1 : 0);
            due("pass(1)", lots.pass(1), strength < 10 ? 1 : 0);
        }
    }

    static void promise10_keptByHowTiredItIs() {
        for (int tired = 0; tired <= 40; tired++) {
            NightLots lots = tiredBy(tired, PLAIN, 40);
            int k = lots.house(0, 4);
            int left = 40 - tired;
            lots.burden(k, Math.min(left, 20));
            due("gaps() of what is left, tired by " + tired, lots.gaps(), 0);
            if (left < 20) {
                lots.burden(k, left + 1);
                due("gaps() of one more than is left, tired by " + tired, lots.gaps(), 1 << k);
            }
        }
    }

    static void promise10_whoIsMoreTiredThanStrongMissesAll() {
        NightLots lots = laid("n0;n0;h0,1,0;h0,2,0;");
        due("pass(1)", lots.pass(1), 0);
        due("gaps(), strength 1 and 2, tired by 2", lots.gaps(), 2);
        due("pass(1)", lots.pass(1), 1);
        due("house(0, 3)", lots.house(0, 3), 0);
        due("house(1, 3)", lots.house(1, 3), 4);
    }

    static void promise10_whoKeepsIsTiredByTwoMore40AtMost() {
        int[] tired = {0, 1, 2, 36, 37, 38, 39, 40};
        int[] then = {2, 3, 4, 38, 39, 40, 40, 40};
        for (int i = 0; i < tired.length; i++) {
            NightLots lots = tiredBy(tired[i], PLAIN, 40);
            lots.pass(1);
            due("house(0, 3), tired by " + tired[i] + " and kept", lots.house(0, 3), then[i]);
            due("house(0, 5)", lots.house(0, 5), 0);
        }
    }

    static void promise10_whoMissesIsTiredByThreeLess0AtLeast() {
        int[] tired = {0, 1, 2, 3, 4, 5, 6, 38, 39, 40};
        int[] then = {0, 0, 0, 0, 1, 2, 3, 35, 36, 37};
        for (int i = 0; i < tired.length; i++) {
            NightLots lots = tiredBy(tired[i], YOUNG, 39);
            lots.burden(lots.house(0, 4), 20);
            lots.pass(1);
            due("house(0, 3), tired by " + tired[i] + " and missed", lots.house(0, 3), then[i]);
            due("house(0, 5)", lots.house(0, 5), 1);
        }
    }

    static void promise10_theLotGoesRound() {
        NightLots lots = laid(SEVEN + "h0,40,1;".repeat(7));
        for (int night = 1; night <= 15; night++) {
            lots.pass(1);
            for (int h = 0; h < 7; h++) {
                due("house(" + h + ", 4) behind " + night, lots.house(h, 4), (h + night) % 7);
            }
        }
        NightLots two = laid("n1;n1;h0,40,0;h0,40,0;");
        two.pass(1);
        due("house(0, 4), of two", two.house(0, 4), 1);
        due("house(1, 4), the last one's", two.house(1, 4), 0);
    }

    static void promise10_howManyGapsThereAreInAllNights() {
        NightLots all = laid("n1;n1;n1;n1;n1;n1;n1;" + "h0,0,0;".repeat(7));
        due("pass(1), all missed", all.pass(1), 7);
        due("pass(20), all missed", all.pass(20), 140);
        due("count(2)", all.count(2), 147);
        NightLots none = atNight(0);
        due("pass(20), none missed", none.pass(20), 0);
        due("count(2)", none.count(2), 0);
        NightLots one = laid("n0;n1;h0,0,0;h0,40,0;");
        due("pass(1), none", one.pass(1), 0);
        due("pass(1), one", one.pass(1), 1);
    }

    static void promise10_nightsAtOnceAreNightsOneByOne() {
        NightLots once = busy();
        NightLots oneByOne = busy();
        int gaps = once.pass(20);
        for (int i = 0; i < 20; i++) {
            gaps -= oneByOne.pass(1);
        }
        due("gaps in 20 nights at once, less those one by one", gaps, 0);
        for (int h = 0; h < 3; h++) {
            for (int what = 3; what < 6; what++) {
                due("house(" + h + ", " + what + ")", once.house(h, what), oneByOne.house(h, what));
            }
            for (int k = 0; k < 3; k++) {
                due("had(" + h + ", " + k + ")", once.had(h, k), oneByOne.had(h, k));
            }
        }
        due("count(2)", once.count(2), oneByOne.count(2));
    }

    // ---- promise 11: swap

    static void promise11_housesAreSuchAsThereAre() {
        int[][] hours = {{BAD, 1, 0}, {2, BAD, 0}, {2, 1, BAD}};
        for (int a = 0; a < 3; a++) {
            for (int b = 0; b < 3; b++) {
                due("swap(" + a + ", " + b + ")", busy().swap(a, b), hours[a][b]);
            }
        }
        for (int h : new int[] {-1, 3, 7, Integer.MIN_VALUE, Integer.MAX_VALUE}) {
            refused(Checks::busy, "swap(" + h + ", 0)", BAD, lots -> lots.swap(h, 0));
            refused(Checks::busy, "swap(2, " + h + ")", BAD, lots -> lots.swap(2, h));
            refused(Checks::busy, "swap(" + h + ", " + h + ")", BAD, lots -> lots.swap(h, h));
        }
        refused(Checks::two, "swap(1, 2)", BAD, lots -> lots.swap(1, 2));
        refused(Checks::two, "swap(2, 0)", BAD, lots -> lots.swap(2, 0));
        NightLots seven = laid(SEVEN + "h0,1,1;".repeat(7));
        due("swap(0, 6)", seven.swap(0, 6), 6);
        due("swap(6, 5)", seven.swap(6, 5), 5);
        due("swap(6, 7)", seven.swap(6, 7), BAD);
        due("swap(7, 6)", seven.swap(7, 6), BAD);
    }

    static void promise11_alikeIsBad() {
        for (int h = 0; h < 3; h++) {
            int alike = h;
            refused(Checks::busy, "swap(" + h + ", " + h + ")", BAD, lots -> lots.swap(alike, alike));
        }
        refused(NightLots::new, "swap(0, 0)", BAD, lots -> lots.swap(0, 0));
    }

    static void promise11_theHourOfTheFirstOneThen() {
        NightLots lots = laid("n1;n1;n1;h0,40,0;h0,40,0;h0,40,0;");
        due("swap(0, 2)", lots.swap(0, 2), 2);
        due("house(0, 4)", lots.house(0, 4), 2);
        due("house(1, 4)", lots.house(1, 4), 1);
        due("house(2, 4)", lots.house(2, 4), 0);
        due("hour(0, 1)", lots.hour(0, 1), 2);
        due("hour(2, 1)", lots.hour(2, 1), 0);
        due("swap(2, 1)", lots.swap(2, 1), 1);
        due("swap(1, 2)", lots.swap(1, 2), 1);
        due("swap(2, 0)", lots.swap(2, 0), 2);
        due("house(0, 4), all swapped back", lots.house(0, 4), 0);
        due("count(5)", lots.count(5), 4);
    }

    static void promise11_theHoursAloneAreSwapped() {
        NightLots lots = busy();
        lots.swap(0, 1);
        lots.swap(0, 1);
        NightLots other = busy();
        for (int h = 0; h < 3; h++) {
            for (int what = 0; what < 6; what++) {
                due("house(" + h + ", " + what + ")", lots.house(h, what), other.house(h, what));
            }
            for (int k = 0; k < 3; k++) {
                due("had(" + h + ", " + k + ")", lots.had(h, k), other.had(h, k));
            }
        }
        due("count(2)", lots.count(2), other.count(2));
        due("count(3)", lots.count(3), other.count(3));
    }

    // ---- promise 12: rest

    static void promise12_housesAreSuchAsThereAre() {
        bounds(Checks::busy, "rest(?)", 0, 2, NightLots::rest);
        bounds(Checks::two, "rest(?)", 0, 1, NightLots::rest);
        bounds(() -> {
            NightLots lots = laid(SEVEN + "h0,40,1;".repeat(7));
            lots.pass(1);
            return lots;
        }, "rest(?)", 0, 6, NightLots::rest);
    }

    static void promise12_fiveLess0AtLeast() {
        for (int tired = 1; tired <= 40; tired++) {
            int then = tired < 5 ? 0 : tired - 5;
            NightLots lots = tiredBy(tired, PLAIN, 40);
            due("rest(0), tired by " + tired, lots.rest(0), then);
            due("house(0, 3), tired by " + tired, lots.house(0, 3), then);
        }
    }

    static void promise12_whoIsNotTiredIsRefused() {
        refused(NightLots::new, "rest(4)", NO, lots -> lots.rest(4));
        refused(() -> tiredBy(0, PLAIN, 40), "rest(0)", NO, lots -> lots.rest(0));
        due("house(2, 3) of the busy valley", busy().house(2, 3), 0);
        refused(Checks::busy, "rest(2)", NO, lots -> lots.rest(2));
        refused(() -> {
            NightLots lots = tiredBy(1, PLAIN, 40);
            lots.rest(0);
            return lots;
        }, "rest(0), rested", NO, lots -> lots.rest(0));
    }

    static void promise12_tiredByOneIsTired() {
        NightLots lots = tiredBy(1, PLAIN, 40);
        due("rest(0)", lots.rest(0), 0);
        due("rest(0)", lots.rest(0), NO);
    }

    static void promise12_badGoesAheadOfNo() {
        for (int h : new int[] {-1, 5, 7, Integer.MIN_VALUE, Integer.MAX_VALUE}) {
            refused(NightLots::new, "rest(" + h + "), nobody being tired", BAD, lots -> lots.rest(h));
        }
    }

    static void promise12_restIsForOneHouse() {
        NightLots lots = atNight(10);
        due("rest(1)", lots.rest(1), 15);
        due("house(0, 3)", lots.house(0, 3), 20);
        due("count(3)", lots.count(3), 35);
        due("house(1, 4)", lots.house(1, 4), 1);
    }

    // ---- promise 13: burden

    static void promise13_hoursAreSuchAsThereAre() {
        bounds(Checks::busy, "burden(?, 20)", 0, 2, (lots, k) -> lots.burden(k, 20));
        bounds(Checks::two, "burden(?, 1)", 0, 1, (lots, k) -> lots.burden(k, 1));
        bounds(Checks::seven, "burden(?, 0)", 0, 6, (lots, k) -> lots.burden(k, 0));
    }

    static void promise13_burdenIsFrom0To20() {
        bounds(Checks::busy, "burden(0, ?)", 0, 20, (lots, b) -> lots.burden(0, b));
        for (int b : new int[] {0, 1, 19, 20}) {
            NightLots lots = busy();
            due("burden(1, " + b + ")", lots.burden(1, b), 12);
            due("hour(1, 0)", lots.hour(1, 0), b);
        }
    }

    static void promise13_thatItIsAlreadyIsRefused() {
        refused(Checks::busy, "burden(0, 4)", NO, lots -> lots.burden(0, 4));
        refused(Checks::busy, "burden(1, 12)", NO, lots -> lots.burden(1, 12));
        refused(() -> laid("n0;n20;h0,0,0;h0,0,0;"), "burden(0, 0)", NO, lots -> lots.burden(0, 0));
        refused(() -> laid("n0;n20;h0,0,0;h0,0,0;"), "burden(1, 20)", NO, lots -> lots.burden(1, 20));
        NightLots lots = busy();
        due("burden(0, 5)", lots.burden(0, 5), 4);
        due("burden(0, 4)", lots.burden(0, 4), 5);
        due("burden(0, 4) again", lots.burden(0, 4), NO);
        due("burden(0, 3)", lots.burden(0, 3), 4);
    }

    static void promise13_whatItWas() {
        NightLots lots = laid("n0;n20;h0,0,0;h0,0,0;");
        due("burden(0, 20)", lots.burden(0, 20), 0);
        due("burden(0, 0)", lots.burden(0, 0), 20);
        due("burden(1, 0)", lots.burden(1, 0), 20);
        due("burden(1, 1)", lots.burden(1, 1), 0);
    }

    static void promise13_oneHourAloneIsChangedAndForAllNights() {
        NightLots lots = busy();
        lots.burden(2, 20);
        due("hour(0, 0)", lots.hour(0, 0), 4);
        due("hour(1, 0)", lots.hour(1, 0), 12);
        lots.pass(3);
        due("hour(2, 0)", lots.hour(2, 0), 20);
    }

    // ---- promise 14: undo

    /** So many acts, by each of which the burden of hour 2 is another: 1 at first, then 2, .. */
    private static NightLots withActs(int acts) {
        NightLots lots = laid("n20;n20;n0;h0,0,0;h0,0,0;h0,0,0;");
        for (int b = 1; b <= acts; b++) {
            lots.burden(2, b);
        }
        return lots;
    }

    static void promise14_withoutAnActItIsRefused() {
        refused(NightLots::new, "undo()", NO, NightLots::undo);
        refused(() -> withActs(0), "undo()", NO, NightLots::undo);
        refused(() -> {
            NightLots lots = withActs(8);
            for (int i = 0; i < 8; i++) {
                lots.undo();
            }
            return lots;
        }, "undo(), all being undone", NO, NightLots::undo);
    }

    static void promise14_theLast8CanBe() {
        for (int acts : new int[] {0, 1, 7, 8, 9, 10, 16, 17, 20}) {
            NightLots lots = withActs(acts);
            int most = Math.min(acts, 8);
            due("count(5) behind " + acts, lots.count(5), most);
            for (int left = most - 1; left >= 0; left--) {
                due("undo() of " + acts, lots.undo(), left);
                due("count(5)", lots.count(5), left);
                due("hour(2, 0)", lots.hour(2, 0), acts - most + left);
            }
            due("undo() of " + acts + ", no more", lots.undo(), NO);
            due("hour(2, 0) then", lots.hour(2, 0), acts - most);
        }
    }

    static void promise14_theNinthPushesOutThePassAhead() {
        for (int acts : new int[] {7, 8}) {
            NightLots lots = withActs(0);
            lots.pass(5);
            for (int b = 1; b <= acts; b++) {
                lots.burden(2, b);
            }
            for (int i = 0; i < 8; i++) {
                lots.undo();
            }
            due("count(1), " + acts + " acts behind pass(5), 8 undone", lots.count(1), acts == 7 ? 0 : 5);
            due("undo()", lots.undo(), NO);
        }
    }

    static void promise14_whatWasUndoneMakesRoom() {
        NightLots lots = withActs(8);
        lots.undo();
        lots.undo();
        lots.undo();
        due("burden(2, 20)", lots.burden(2, 20), 5);
        due("count(5)", lots.count(5), 6);
        lots.burden(2, 19);
        lots.burden(2, 18);
        due("count(5)", lots.count(5), 8);
        lots.burden(2, 17);
        due("count(5)", lots.count(5), 8);
        int[] burdens = {18, 19, 20, 5, 4, 3, 2, 1};
        for (int i = 0; i < 8; i++) {
            due("undo()", lots.undo(), 7 - i);
            due("hour(2, 0)", lots.hour(2, 0), burdens[i]);
        }
        due("undo()", lots.undo(), NO);
    }

    static void promise14_aPassIsUndoneWithAllItsNights() {
        for (int n : new int[] {1, 2, 19, 20}) {
            NightLots lots = busy();
            lots.pass(n);
            due("undo()", lots.undo(), 5);
            same("pass(" + n + ") undone", told(lots), told(busy()));
        }
    }

    static void promise14_eachActIsUndone() {
        NightLots lots = busy();
        lots.swap(0, 1);
        due("undo() of swap", lots.undo(), 5);
        same("swap() undone", told(lots), told(busy()));
        lots = busy();
        lots.rest(0);
        due("undo() of rest", lots.undo(), 5);
        same("rest() undone", told(lots), told(busy()));
        lots = busy();
        lots.burden(2, 20);
        due("undo() of burden", lots.undo(), 5);
        same("burden() undone", told(lots), told(busy()));
    }

    static void promise14_theLatestIsUndoneFirst() {
        NightLots lots = busy();
        due("undo() of rest(1)", lots.undo(), 4);
        due("house(1, 3)", lots.house(1, 3), 6);
        due("house(0, 4)", lots.house(0, 4), 2);
        due("undo() of swap(0, 2)", lots.undo(), 3);
        due("house(0, 4)", lots.house(0, 4), 0);
        due("house(2, 4)", lots.house(2, 4), 2);
        due("undo() of pass(1)", lots.undo(), 2);
        due("count(1)", lots.count(1), 2);
        due("hour(1, 0)", lots.hour(1, 0), 12);
        due("undo() of burden(1, 12)", lots.undo(), 1);
        due("hour(1, 0)", lots.hour(1, 0), 9);
        due("undo() of pass(2)", lots.undo(), 0);
        due("count(1)", lots.count(1), 0);
        due("undo(), no more", lots.undo(), NO);
    }

    static void promise14_whatWasRefusedIsNotUndone() {
        NightLots lots = withActs(8);
        lots.swap(0, 0);
        lots.swap(0, 3);
        lots.rest(0);
        lots.rest(-1);
        lots.burden(0, 20);
        lots.burden(0, 21);
        lots.pass(0);
        lots.pass(21);
        due("count(5)", lots.count(5), 8);
        for (int left = 7; left >= 0; left--) {
            due("undo()", lots.undo(), left);
            due("hour(2, 0)", lots.hour(2, 0), left);
        }
        NightLots late = atNight(999);
        late.pass(1);
        due("undo() behind night 999", late.undo(), 7);
        due("count(1), the latest that was not refused undone", late.count(1), 980);
    }

    static void promise14_noOtherCallIsAnAct() {
        NightLots lots = withActs(2);
        lots.seen(0, 0, 1);
        lots.keep();
        lots.write('x');
        lots.winter(1, 60, 0);
        lots.behind(40, 0, 0);
        lots.even(0);
        lots.lamps(40, 0);
        lots.kinds(0);
        lots.strengths(0, 0);
        due("count(5)", lots.count(5), 2);
        due("undo()", lots.undo(), 1);
        due("hour(2, 0)", lots.hour(2, 0), 1);
        due("count(4) stays", lots.count(4), 1);
        due("count(6) stays", lots.count(6), 1);
        due("fault() stays", lots.fault() >= 0 ? 1 : 0, 1);
        lots.forget();
        lots.wipe();
        due("undo()", lots.undo(), 0);
    }

    static void promise14_behindLayAndBackNothingIsUndone() {
        NightLots lots = withActs(8);
        lots.lay();
        due("count(5) behind lay()", lots.count(5), 0);
        refused(() -> {
            NightLots again = withActs(8);
            again.lay();
            return again;
        }, "undo() behind lay()", NO, NightLots::undo);
        refused(() -> {
            NightLots again = withActs(3);
            again.keep();
            again.burden(0, 1);
            again.back();
            return again;
        }, "undo() behind back()", NO, NightLots::undo);
    }

    static void promise14_anUndoneNightCanGoByAgain() {
        NightLots lots = atNight(999);
        lots.undo();
        due("count(1)", lots.count(1), 980);
        due("pass(20)", lots.pass(20), NO);
        due("pass(19)", lots.pass(19), 0);
        due("count(1)", lots.count(1), 999);
        due("count(5)", lots.count(5), 8);
    }
}
