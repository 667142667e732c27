import java.util.List;

/** Promises 1 to 9, sentence by sentence, where one names a bound: at it, just inside, just outside; what is refused. */
public final class ValleyEdges extends Checks {
    private static final String SEVEN = "n1;n2;n3;n4;n5;n6;n7;";

    public static void main(String[] args) {
        runAll(ValleyEdges.class);
    }

    // ---- promise 1: a new object

    static void promise01_theTextIsEmpty() {
        NightLots lots = new NightLots();
        due("count(7)", lots.count(7), 0);
        due("fault()", lots.fault(), NONE);
        due("lay()", lots.lay(), NO);
        due("wipe()", lots.wipe(), 0);
        due("write('n')", lots.write('n'), 1);
    }

    static void promise01_atFirstFiveHoursAndHousesAreAsTold() {
        NightLots lots = new NightLots();
        int[][] houses = {{0, 14, 10, 0, 0, 0}, {1, 9, 22, 0, 1, 0}, {2, 20, 35, 0, 2, 0}, {3, 12, 41, 0, 3, 0}, {0, 8, 60, 0, 4, 0}};
        int[] burdens = {4, 7, 12, 9, 5};
        for (int i = 0; i < 5; i++) {
            for (int what = 0; what < 6; what++) {
                due("house(" + i + ", " + what + ")", lots.house(i, what), houses[i][what]);
            }
            due("hour(" + i + ", 0)", lots.hour(i, 0), burdens[i]);
            due("hour(" + i + ", 1)", lots.hour(i, 1), i);
        }
        due("house(5, 0)", lots.house(5, 0), BAD);
        due("hour(5, 0)", lots.hour(5, 0), BAD);
    }

    static void promise01_nobodyHasHadAnHour() {
        NightLots lots = new NightLots();
        for (int h = 0; h < 5; h++) {
            for (int k = 0; k < 5; k++) {
                due("had(" + h + ", " + k + ")", lots.had(h, k), 0);
            }
        }
    }

    static void promise01_allCountsButThatOfHousesAreNone() {
        dueCounts("at first", new NightLots(), 5, 0, 0, 0, 0, 0, 0, 0);
    }

    static void promise01_nothingIsUndoneKeptAsideOrSeen() {
        refused(NightLots::new, "undo()", NO, NightLots::undo);
        refused(NightLots::new, "back()", NO, NightLots::back);
        due("forget()", new NightLots().forget(), 0);
        due("kinds(0)", new NightLots().kinds(0), 15);
    }

    static void promise01_twoObjectsAreApart() {
        NightLots one = new NightLots();
        NightLots other = new NightLots();
        one.write('n');
        one.pass(3);
        one.swap(0, 1);
        one.seen(0, 0, 1);
        one.keep();
        same("beside another object", told(other), told(new NightLots()));
    }

    // ---- promise 2: write

    static void promise02_aLetterIsFrom32To126() {
        NightLots lots = new NightLots();
        int[] letters = {31, 32, 33, 125, 126, 127};
        int[] lengths = {BAD, 1, 2, 3, 4, BAD};
        for (int i = 0; i < letters.length; i++) {
            due("write(" + letters[i] + ")", lots.write(letters[i]), lengths[i]);
        }
        due("count(7)", lots.count(7), 4);
        NightLots all = new NightLots();
        for (int letter = 32; letter <= 126; letter++) {
            due("write(" + letter + ")", all.write(letter), letter - 31);
        }
    }

    static void promise02_whatIsNoLetterIsRefused() {
        bounds(Checks::busyWithText, "write(?)", 32, 126, NightLots::write);
        // As a char or a byte these would be 'n'.
        for (int number : new int[] {'n' + 256, 'n' + 65536, 'n' - 256, -1, 0, 128, 255}) {
            refused(Checks::busyWithText, "write(" + number + ")", BAD, lots -> lots.write(number));
        }
    }

    private static NightLots withLetters(int length) {
        NightLots lots = busy();
        for (int i = 0; i < length; i++) {
            lots.write(i % 3 == 0 ? 'n' : i % 3 == 1 ? '5' : ';');
        }
        return lots;
    }

    static void promise02_theTextHas200LettersAtMost() {
        NightLots lots = withLetters(198);
        due("the 199th letter", lots.write('n'), 199);
        due("the 200th letter", lots.write('5'), 200);
        due("the 201st letter", lots.write(';'), FULL);
        due("the 201st letter again", lots.write('n'), FULL);
        due("count(7)", lots.count(7), 200);
    }

    static void promise02_onAFullTextNothingChanges() {
        refused(() -> withLetters(200), "write(32)", FULL, lots -> lots.write(32));
        refused(() -> withLetters(200), "write(126)", FULL, lots -> lots.write(126));
    }

    static void promise02_badGoesAheadOfFull() {
        for (int letter : new int[] {31, 127, -1, Integer.MIN_VALUE, Integer.MAX_VALUE}) {
            refused(() -> withLetters(200), "write(" + letter + ")", BAD, lots -> lots.write(letter));
        }
    }

    static void promise02_wipedAFullTextTakesLettersAgain() {
        NightLots lots = withLetters(200);
        lots.wipe();
        for (int length = 1; length <= 200; length++) {
            due("letter " + length, lots.write('n'), length);
        }
        due("the 201st letter", lots.write('n'), FULL);
    }

    static void promise02_theLetterComesBehindTheText() {
        NightLots lots = new NightLots();
        int[] faults = {0, 0, NONE, 3, 3, NONE};
        String text = "n1;n2;";
        for (int i = 0; i < text.length(); i++) {
            due("write of letter " + i, lots.write(text.charAt(i)), i + 1);
            due("fault() of " + (i + 1) + " letters", lots.fault(), faults[i]);
        }
    }

    static void promise02_aLetterChangesTheTextAlone() {
        NightLots lots = busy();
        lots.write(' ');
        lots.wipe();
        same("behind a letter", told(lots), told(busy()));
    }

    // ---- promise 3: wipe

    static void promise03_anEmptyTextWasOfNoLetters() {
        due("wipe()", new NightLots().wipe(), 0);
        changesNothing(Checks::busy, "wipe()", NightLots::wipe);
    }

    static void promise03_howLongItWas() {
        for (int length : new int[] {1, 2, 199, 200}) {
            NightLots lots = withLetters(length);
            due("wipe() of " + length, lots.wipe(), length);
            due("count(7)", lots.count(7), 0);
            due("fault()", lots.fault(), NONE);
            due("wipe() again", lots.wipe(), 0);
        }
    }

    static void promise03_aFullTextRefusedALetterOnlyOnce() {
        NightLots lots = withLetters(200);
        lots.write('n');
        due("wipe()", lots.wipe(), 200);
    }

    static void promise03_theTextAloneIsWiped() {
        NightLots lots = busyWithText();
        due("wipe()", lots.wipe(), 16);
        same("behind wipe()", told(lots), told(busy()));
    }

    // ---- promise 4: fault

    static void promise04_anEmptyTextHasNone() {
        dueFault("", NONE);
    }

    static void promise04_aNumberHasOneOrTwoFigures() {
        String[] numbers = {"", "1", "01", "001"};
        for (int figures = 0; figures < 4; figures++) {
            boolean isSo = figures == 1 || figures == 2;
            String number = numbers[figures];
            dueFault("n" + number + ";", isSo ? NONE : 0);
            dueFault("n5;n" + number + ";", isSo ? NONE : 3);
            dueFault("n5;h" + number + ",7,7;", isSo ? NONE : 3);
            dueFault("n5;h3," + number + ",7;", isSo ? NONE : 3);
            dueFault("n5;h3,7," + number + ";", isSo ? NONE : 3);
        }
        dueFault("n00;h00,00,00;", NONE);
        dueFault("n000;", 0);
        dueFault("n0020;", 0);
    }

    static void promise04_burdenIsFrom0To20() {
        for (int burden : new int[] {0, 1, 9, 10, 19, 20}) {
            dueFault("n" + burden + ";", NONE);
            dueFault("n5;n" + burden + ";", NONE);
        }
        for (int burden : new int[] {21, 22, 30, 99, 100, 200}) {
            dueFault("n" + burden + ";", 0);
            dueFault("n20;n" + burden + ";", 4);
        }
        dueFault("n-1;", 0);
        dueFault("n+1;", 0);
    }

    static void promise04_sevenHoursAtMost() {
        dueFault("n1;n2;n3;n4;n5;n6;", NONE);
        dueFault(SEVEN, NONE);
        dueFault(SEVEN + "n8;", 21);
        dueFault("n10;n10;n10;n10;n10;n10;n10;n10;", 28);
        String turns = "n1;h0,0,0;".repeat(7);
        dueFault(turns, NONE);
        dueFault(turns + "n1;", 70);
        dueFault(SEVEN + "h0,0,0;n1;h0,0,0;", 28);
    }

    static void promise04_kindIsFrom0To3() {
        for (int kind = 0; kind <= 3; kind++) {
            dueFault("n5;h" + kind + ",7,7;", NONE);
            dueFault("n5;h0" + kind + ",7,7;", NONE);
        }
        for (int kind : new int[] {4, 5, 9, 10, 13, 20, 99}) {
            dueFault("n5;h" + kind + ",7,7;", 3);
        }
        dueFault("n5;h-1,7,7;", 3);
    }

    static void promise04_strengthIsFrom0To40() {
        for (int strength : new int[] {0, 1, 9, 10, 39, 40}) {
            dueFault("n5;h3," + strength + ",7;", NONE);
        }
        for (int strength : new int[] {41, 42, 50, 99, 100, 400}) {
            dueFault("n5;h3," + strength + ",7;", 3);
        }
        dueFault("n5;h3,-1,7;", 3);
    }

    static void promise04_placeIsFrom0To99() {
        for (int place : new int[] {0, 1, 9, 10, 98, 99}) {
            dueFault("n5;h3,7," + place + ";", NONE);
        }
        for (int place : new int[] {100, 101, 999}) {
            dueFault("n5;h3,7," + place + ";", 3);
        }
        dueFault("n5;h3,7,-1;", 3);
    }

    static void promise04_allBoundsTogether() {
        dueFault("n0;n20;h0,0,0;h3,40,99;", NONE);
        dueFault("n20;n0;h3,40,99;h4,40,99;", 16);
        dueFault("n20;n0;h3,40,99;h3,41,99;", 16);
    }

    static void promise04_noMoreHousesThanHoursAhead() {
        dueFault("h0,0,0;", 0);
        dueFault("h0,0,0;n1;", 0);
        dueFault("n1;h0,0,0;", NONE);
        dueFault("n1;h0,0,0;h0,0,0;", 10);
        dueFault("n1;h0,0,0;h0,0,0;n1;", 10);
        dueFault("n1;h0,0,0;n1;h0,0,0;", NONE);
        dueFault("n1;n1;h0,0,0;", NONE);
        dueFault("n1;n1;h0,0,0;h0,0,0;", NONE);
        dueFault("n1;n1;h0,0,0;h0,0,0;h0,0,0;", 20);
        dueFault(SEVEN + "h0,0,0;".repeat(6), NONE);
        dueFault(SEVEN + "h0,0,0;".repeat(7), NONE);
        dueFault(SEVEN + "h0,0,0;".repeat(8), 70);
    }

    static void promise04_anHourHasOneNumberAHouseThree() {
        dueFault("n1,1;", 0);
        dueFault("n1,1,1;", 0);
        dueFault("n5;h1;", 3);
        dueFault("n5;h1,1;", 3);
        dueFault("n5;h1,1,1;", NONE);
        dueFault("n5;h1,1,1,1;", 3);
    }

    static void promise04_numbersArePartedByCommas() {
        for (String mark : new String[] {"", ";", ".", " ", ", ", " ,", ",,", "-", "+"}) {
            dueFault("n5;h1" + mark + "1,1;", 3);
            dueFault("n5;h1,1" + mark + "1;", 3);
        }
        dueFault("n,1;", 0);
        dueFault("n5;h,1,1,1;", 3);
        dueFault("n5;h1,1,1,;", 3);
    }

    static void promise04_aSemicolonIsBehindTheLastNumber() {
        for (String mark : new String[] {"", ",", ":", " ", " ;", "<"}) {
            dueFault("n1" + mark, 0);
            dueFault("n1" + mark + "n1;", 0);
            dueFault("n5;h1,1,1" + mark, 3);
        }
        dueFault("n1;;", 3);
        dueFault(";", 0);
        dueFault(";n1;", 0);
    }

    static void promise04_anItemBeginsWithNOrH() {
        for (String letter : new String[] {"m", "o", "N", "g", "i", "H", "0", " ", "~", ",", ""}) {
            dueFault(letter + "1;", 0);
            dueFault("n1;" + letter + "1;", 3);
            dueFault("n1;" + letter + "1,1,1;", 3);
        }
        dueFault(" n1;", 0);
        dueFault("n1; ", 3);
        dueFault("n1; n1;", 3);
    }

    static void promise04_aFigureIsFrom0To9() {
        for (String none : new String[] {"/", ":", "a", " ", "-", "O"}) {
            dueFault("n" + none + ";", 0);
            dueFault("n1" + none + ";", 0);
            dueFault("n" + none + "1;", 0);
        }
        for (int figure = 0; figure <= 9; figure++) {
            dueFault("n" + figure + ";h0,0," + figure + figure + ";", NONE);
        }
    }

    static void promise04_anItemThatEndsTooSoonIsNotSo() {
        String house = "h3,40,99;";
        for (int length = 1; length < house.length(); length++) {
            dueFault("n20;" + house.substring(0, length), 4);
        }
        dueFault("n", 0);
        dueFault("n2", 0);
        dueFault("n20", 0);
        dueFault("n20;n", 4);
    }

    static void promise04_theFirstOfSeveralIsTold() {
        dueFault("x", 0);
        dueFault("n21;n21;", 0);
        dueFault("n1;n21;x", 3);
        dueFault("n1;n1;h0,41,0;n21;x", 6);
        dueFault("n1;n1;h0,0,0;h0,0,0;x", 20);
        dueFault("n1;n1;h0,0,0;h0,0,0;n", 20);
    }

    static void promise04_ofAFullText() {
        due("fault()", withLetters(200).fault(), 21);
        dueFault("n".repeat(200), 0);
        dueFault(SEVEN + "h0,0,0;".repeat(7) + " ".repeat(130), 70);
        dueFault(SEVEN + "h00,00,00;".repeat(7) + "n20;".repeat(27), 91);
    }

    static void promise04_askingChangesNothing() {
        changesNothing(Checks::busy, "fault()", NightLots::fault);
        changesNothing(Checks::busyWithText, "fault()", NightLots::fault);
    }

    // ---- promise 5: lay

    static void promise05_twoHoursAtLeast() {
        dueLay("", NO);
        dueLay("n1;", NO);
        dueLay("n1;h0,0,0;", NO);
        dueLay("n1;n1;h0,0,0;h0,0,0;", 2);
        dueLay("n1;n1;n1;h0,0,0;h0,0,0;h0,0,0;", 3);
    }

    static void promise05_sevenHoursAtMost() {
        dueLay("n1;n2;n3;n4;n5;n6;" + "h0,0,0;".repeat(6), 6);
        dueLay(SEVEN + "h0,0,0;".repeat(7), 7);
        dueLay(SEVEN + "n8;" + "h0,0,0;".repeat(8), NO);
    }

    static void promise05_asManyHousesAsHours() {
        dueLay("n1;n1;", NO);
        dueLay("n1;n1;h0,0,0;", NO);
        dueLay("n1;n1;h0,0,0;h0,0,0;", 2);
        dueLay("n1;n1;h0,0,0;h0,0,0;h0,0,0;", NO);
        dueLay("n1;n1;h0,0,0;h0,0,0;n1;", NO);
        dueLay(SEVEN + "h0,0,0;".repeat(6), NO);
        dueLay(SEVEN + "h0,0,0;".repeat(8), NO);
        dueLay("n1;h0,0,0;n1;h0,0,0;", 2);
    }

    static void promise05_aTextWithAFaultIsNotLaid() {
        dueLay("n1;n1;h0,0,0;h0,0,0;x", NO);
        dueLay("n1;n1;h0,0,0;h0,0,0", NO);
        dueLay("xn1;n1;h0,0,0;h0,0,0;", NO);
        dueLay("n21;n1;h0,0,0;h0,0,0;", NO);
        dueLay("n1;n1;h0,0,0;h0,41,0;", NO);
        dueLay("n1;n1;h4,0,0;h0,0,0;", NO);
        dueLay("n1;n1;h0,0,100;h0,0,0;", NO);
    }

    static void promise05_whatIsNotLaidChangesNothing() {
        for (String text : new String[] {"", "n1;h0,0,0;", "n1;n1;h0,0,0;", "n1;n1;h0,0,0;h0,0,0;x", "n1;n1;n1;n1;"}) {
            refused(() -> {
                NightLots lots = busy();
                write(lots, text);
                return lots;
            }, "lay() of \"" + text + "\"", NO, NightLots::lay);
        }
    }

    static void promise05_laidAllBeginsAnew() {
        NightLots lots = busy();
        String text = "n4;n9;n6;h0,14,10;h2,9,22;h3,7,41;";
        write(lots, text);
        due("lay()", lots.lay(), 3);
        dueCounts("when laid", lots, 3, 0, 0, 0, 0, 0, 0, text.length());
        same("laid over another valley", told(lots), told(laid(text)));
        due("undo()", lots.undo(), NO);
        due("back()", lots.back(), NO);
        due("forget()", lots.forget(), 0);
    }

    static void promise05_theTextStays() {
        NightLots lots = laid("n4;n9;h0,14,10;h2,9,22;");
        due("fault()", lots.fault(), NONE);
        lots.pass(1);
        due("lay() again", lots.lay(), 2);
        due("count(1)", lots.count(1), 0);
        due("write('x')", lots.write('x'), 24);
        due("lay() with a fault behind", lots.lay(), NO);
        due("wipe()", lots.wipe(), 24);
    }

    static void promise05_fewerAndMoreHousesThanAhead() {
        NightLots lots = laid(SEVEN + "h0,1,1;".repeat(7));
        lots.pass(7);
        write(lots, "n8;n9;h1,2,3;h2,3,4;");
        due("lay() of two", lots.lay(), 2);
        same("two behind seven", told(lots), told(laid("n8;n9;h1,2,3;h2,3,4;")));
        due("house(2, 0)", lots.house(2, 0), BAD);
        due("hour(2, 0)", lots.hour(2, 0), BAD);
        write(lots, SEVEN + "h0,1,1;".repeat(7));
        due("lay() of seven", lots.lay(), 7);
        due("had(6, 6)", lots.had(6, 6), 0);
        due("house(6, 4)", lots.house(6, 4), 6);
        due("house(7, 0)", lots.house(7, 0), BAD);
    }

    static void promise05_hoursAndHousesAreCountedFrom0InTheirOrder() {
        NightLots lots = laid("n0;h3,40,99;n20;n3;h0,0,0;h1,7,50;");
        int[][] houses = {{3, 40, 99}, {0, 0, 0}, {1, 7, 50}};
        int[] burdens = {0, 20, 3};
        for (int i = 0; i < 3; i++) {
            for (int what = 0; what < 3; what++) {
                due("house(" + i + ", " + what + ")", lots.house(i, what), houses[i][what]);
            }
            due("hour(" + i + ", 0)", lots.hour(i, 0), burdens[i]);
            due("hour(" + i + ", 1)", lots.hour(i, 1), i);
        }
    }

    // ---- promise 6: house

    static void promise06_housesAreSuchAsThereAre() {
        bounds(Checks::busy, "house(?, 1)", 0, 2, (lots, h) -> lots.house(h, 1));
        bounds(Checks::two, "house(?, 3)", 0, 1, (lots, h) -> lots.house(h, 3));
        bounds(Checks::seven, "house(?, 4)", 0, 6, (lots, h) -> lots.house(h, 4));
    }

    static void promise06_whatIsFrom0To5() {
        bounds(Checks::busy, "house(0, ?)", 0, 5, (lots, what) -> lots.house(0, what));
        bounds(Checks::busy, "house(2, ?)", 0, 5, (lots, what) -> lots.house(2, what));
    }

    static void promise06_atTheBoundsOfAText() {
        NightLots lots = laid("n0;n20;h0,0,0;h3,40,99;");
        int[][] houses = {{0, 0, 0, 0, 0, 0}, {3, 40, 99, 0, 1, 0}};
        for (int h = 0; h < 2; h++) {
            for (int what = 0; what < 6; what++) {
                due("house(" + h + ", " + what + ")", lots.house(h, what), houses[h][what]);
            }
        }
    }

    static void promise06_howOftenItMissed() {
        NightLots lots = laid("n1;n1;h0,0,0;h0,1,0;");
        for (int nights = 1; nights <= 3; nights++) {
            lots.pass(1);
            due("house(0, 5) behind " + nights, lots.house(0, 5), nights);
        }
        due("house(1, 5)", lots.house(1, 5), 1);
        lots.undo();
        due("house(0, 5), undone", lots.house(0, 5), 2);
    }

    static void promise06_askingChangesNothing() {
        for (int what = 0; what < 6; what++) {
            int asked = what;
            changesNothing(Checks::busy, "house(1, " + what + ")", lots -> lots.house(1, asked));
        }
    }

    // ---- promise 7: hour

    static void promise07_hoursAreSuchAsThereAre() {
        bounds(Checks::busy, "hour(?, 0)", 0, 2, (lots, k) -> lots.hour(k, 0));
        bounds(Checks::busy, "hour(?, 1)", 0, 2, (lots, k) -> lots.hour(k, 1));
        bounds(Checks::two, "hour(?, 0)", 0, 1, (lots, k) -> lots.hour(k, 0));
        bounds(Checks::seven, "hour(?, 1)", 0, 6, (lots, k) -> lots.hour(k, 1));
    }

    static void promise07_whatIs0Or1() {
        bounds(Checks::busy, "hour(2, ?)", 0, 1, (lots, what) -> lots.hour(2, what));
    }

    static void promise07_burdenAtItsBounds() {
        NightLots lots = laid("n0;n20;h0,0,0;h0,0,0;");
        due("hour(0, 0)", lots.hour(0, 0), 0);
        due("hour(1, 0)", lots.hour(1, 0), 20);
        lots.burden(0, 20);
        lots.burden(1, 0);
        due("hour(0, 0), heavier", lots.hour(0, 0), 20);
        due("hour(1, 0), lighter", lots.hour(1, 0), 0);
    }

    static void promise07_theHouseThatHasItGoesRound() {
        NightLots lots = laid(SEVEN + "h0,1,1;".repeat(7));
        for (int night = 0; night <= 14; night++) {
            for (int k = 0; k < 7; k++) {
                due("hour(" + k + ", 1) behind " + night, lots.hour(k, 1), (k + 14 - night) % 7);
            }
            lots.pass(1);
        }
    }

    static void promise07_askingChangesNothing() {
        changesNothing(Checks::busy, "hour(0, 0)", lots -> lots.hour(0, 0));
        changesNothing(Checks::busy, "hour(2, 1)", lots -> lots.hour(2, 1));
    }

    // ---- promise 8: heavy

    private static void dueHeavy(String text, int h, int... heavy) {
        NightLots lots = laid(text);
        for (int k = 0; k < heavy.length; k++) {
            due("heavy(" + h + ", " + k + ") of \"" + text + "\"", lots.heavy(h, k), heavy[k]);
        }
    }

    static void promise08_housesAndHoursAreSuchAsThereAre() {
        bounds(Checks::busy, "heavy(?, 0)", 0, 2, (lots, h) -> lots.heavy(h, 0));
        bounds(Checks::busy, "heavy(0, ?)", 0, 2, (lots, k) -> lots.heavy(0, k));
        bounds(Checks::two, "heavy(?, 1)", 0, 1, (lots, h) -> lots.heavy(h, 1));
        bounds(Checks::two, "heavy(1, ?)", 0, 1, (lots, k) -> lots.heavy(1, k));
        bounds(() -> laid(SEVEN + "h2,1,1;".repeat(7)), "heavy(?, 6)", 0, 6, (lots, h) -> lots.heavy(h, 6));
        bounds(() -> laid(SEVEN + "h3,1,1;".repeat(7)), "heavy(6, ?)", 0, 6, (lots, k) -> lots.heavy(6, k));
    }

    static void promise08_forAPlainOneAsItsBurden() {
        dueHeavy("n0;n1;n19;n20;h0,0,0;h0,40,0;h1,0,0;h1,0,0;", 0, 0, 1, 19, 20);
    }

    static void promise08_forAYoungOneTwiceThat() {
        dueHeavy("n0;n1;n19;n20;h0,0,0;h1,40,0;h1,0,0;h1,0,0;", 1, 0, 2, 38, 40);
    }

    static void promise08_forAGayOneThreeLessAtTheEnds() {
        dueHeavy("n2;n2;n2;h3,0,0;h0,0,0;h0,0,0;", 0, 0, 2, 0);
        dueHeavy("n3;n3;n3;h3,0,0;h0,0,0;h0,0,0;", 0, 0, 3, 0);
        dueHeavy("n4;n4;n4;h3,0,0;h0,0,0;h0,0,0;", 0, 1, 4, 1);
        dueHeavy("n0;n0;n0;h3,0,0;h0,0,0;h0,0,0;", 0, 0, 0, 0);
        dueHeavy("n1;n1;n1;h3,0,0;h0,0,0;h0,0,0;", 0, 0, 1, 0);
        dueHeavy("n20;n20;n20;h3,0,0;h0,0,0;h0,0,0;", 0, 17, 20, 17);
    }

    static void promise08_theEndsOfTwoAndOfSevenHours() {
        dueHeavy("n10;n10;h0,0,0;h3,0,0;", 1, 7, 7);
        dueHeavy("n10;n10;n10;n10;n10;n10;n10;" + "h0,0,0;".repeat(6) + "h3,0,0;", 6, 7, 10, 10, 10, 10, 10, 7);
        // Of seven laid ahead nothing is left: the last of three is hour 2.
        NightLots lots = laid(SEVEN + "h3,1,1;".repeat(7));
        write(lots, "n10;n10;n10;h3,0,0;h3,0,0;h3,0,0;");
        lots.lay();
        due("heavy(0, 1)", lots.heavy(0, 1), 10);
        due("heavy(0, 2)", lots.heavy(0, 2), 7);
    }

    static void promise08_forAWidowedOneNoneIsHalfAtFirst() {
        dueHeavy("n0;n1;n20;h2,0,0;h2,0,0;h2,0,0;", 0, 0, 1, 20);
        dueHeavy("n0;n1;n20;h2,0,0;h2,0,0;h2,0,0;", 1, 0, 1, 20);
    }

    static void promise08_forAWidowedOneHalfIsCut() {
        int[] halves = {0, 0, 1, 1, 2};
        for (int burden = 0; burden <= 20; burden++) {
            NightLots lots = laid("n" + burden + ";n" + burden + ";h2,40,0;h0,40,0;");
            lots.pass(1);
            due("heavy(0, 0) of " + burden, lots.heavy(0, 0), burden < 5 ? halves[burden] : (burden - burden % 2) / 2);
            due("heavy(0, 1) of " + burden, lots.heavy(0, 1), burden);
        }
    }

    static void promise08_forAWidowedOneTheHourThatItHasHadMostOften() {
        NightLots lots = laid("n10;n12;n14;h2,40,0;h2,40,0;h2,0,0;");
        lots.pass(1);
        int[][] once = {{5, 12, 14}, {10, 6, 14}, {10, 12, 7}};
        for (int h = 0; h < 3; h++) {
            for (int k = 0; k < 3; k++) {
                due("heavy(" + h + ", " + k + "), had one once", lots.heavy(h, k), once[h][k]);
            }
        }
        // Back at hour 2 by a swap, house 2 has it for the second time; had once each, 0 would be the lowest.
        lots.swap(2, 1);
        lots.pass(1);
        due("had(2, 2)", lots.had(2, 2), 2);
        lots.pass(1);
        due("had(2, 0)", lots.had(2, 0), 1);
        due("heavy(2, 0), had once", lots.heavy(2, 0), 10);
        due("heavy(2, 2), had twice", lots.heavy(2, 2), 7);
    }

    static void promise08_forAWidowedOneOfSeveralTheLowest() {
        NightLots lots = laid("n10;n12;n14;h2,40,0;h2,40,0;h2,40,0;");
        lots.pass(2);
        int[][] two = {{5, 12, 14}, {10, 6, 14}, {5, 12, 14}};
        for (int h = 0; h < 3; h++) {
            for (int k = 0; k < 3; k++) {
                due("heavy(" + h + ", " + k + "), two had once", lots.heavy(h, k), two[h][k]);
            }
        }
        lots.pass(1);
        for (int h = 0; h < 3; h++) {
            due("heavy(" + h + ", 0), all had once", lots.heavy(h, 0), 5);
            due("heavy(" + h + ", 1), all had once", lots.heavy(h, 1), 12);
            due("heavy(" + h + ", 2), all had once", lots.heavy(h, 2), 14);
        }
    }

    static void promise08_itIsOfNowAndNotOfHowTiredItIs() {
        NightLots lots = laid("n10;n10;h0,40,0;h1,40,0;");
        lots.pass(2);
        due("heavy(0, 0), tired", lots.heavy(0, 0), 10);
        lots.burden(0, 7);
        due("heavy(0, 0), lighter", lots.heavy(0, 0), 7);
        due("heavy(1, 0), lighter", lots.heavy(1, 0), 14);
        lots.undo();
        due("heavy(1, 0), undone", lots.heavy(1, 0), 20);
    }

    static void promise08_askingChangesNothing() {
        changesNothing(Checks::busy, "heavy(1, 1)", lots -> lots.heavy(1, 1));
    }

    // ---- promise 9: had

    static void promise09_housesAndHoursAreSuchAsThereAre() {
        bounds(Checks::busy, "had(?, 0)", 0, 2, (lots, h) -> lots.had(h, 0));
        bounds(Checks::busy, "had(0, ?)", 0, 2, (lots, k) -> lots.had(0, k));
        bounds(Checks::two, "had(?, 1)", 0, 1, (lots, h) -> lots.had(h, 1));
        bounds(Checks::two, "had(1, ?)", 0, 1, (lots, k) -> lots.had(1, k));
        bounds(Checks::seven, "had(?, 6)", 0, 6, (lots, h) -> lots.had(h, 6));
        bounds(Checks::seven, "had(6, ?)", 0, 6, (lots, k) -> lots.had(6, k));
    }

    static void promise09_keptOrMissed() {
        NightLots lots = laid("n1;n1;h0,40,0;h0,0,0;");
        due("had(0, 0), none", lots.had(0, 0), 0);
        lots.pass(1);
        due("had(0, 0), kept", lots.had(0, 0), 1);
        due("had(1, 1), missed", lots.had(1, 1), 1);
        due("had(0, 1), not yet", lots.had(0, 1), 0);
        due("had(1, 0), not yet", lots.had(1, 0), 0);
    }

    static void promise09_theHourOfAComingNightIsNotYetHad() {
        NightLots lots = laid("n1;n1;h0,40,0;h0,40,0;");
        lots.swap(0, 1);
        due("had(0, 1)", lots.had(0, 1), 0);
        lots.pass(1);
        due("had(0, 1), gone by", lots.had(0, 1), 1);
        due("had(0, 0)", lots.had(0, 0), 0);
    }

    static void promise09_inAllNightsUpTo999() {
        NightLots lots = atNight(999);
        due("had(0, 0)", lots.had(0, 0), 500);
        due("had(0, 1)", lots.had(0, 1), 499);
        due("had(1, 0)", lots.had(1, 0), 499);
        due("had(1, 1)", lots.had(1, 1), 500);
    }

    static void promise09_eachHouseAndHourIsCountedApart() {
        NightLots lots = laid(SEVEN + "h0,1,1;".repeat(7));
        lots.pass(10);
        for (int h = 0; h < 7; h++) {
            for (int k = 0; k < 7; k++) {
                due("had(" + h + ", " + k + ")", lots.had(h, k), List.of(0, 1, 2).contains((k - h + 7) % 7) ? 2 : 1);
            }
        }
    }

    static void promise09_askingChangesNothing() {
        changesNothing(Checks::busy, "had(1, 1)", lots -> lots.had(1, 1));
    }
}
