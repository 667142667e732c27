/** For each promise of the document: ordinary inputs, the edges that it names, and wrong inputs, answers worked out by hand. */
public final class PromiseTests extends Checks {
    public static void main(String[] args) {
        runAll(PromiseTests.class);
    }

    static void promise01_theConstants() {
        due("BAD", NightLots.BAD, -1);
        due("NO", NightLots.NO, -2);
        due("FULL", NightLots.FULL, -3);
        due("NONE", NightLots.NONE, -4);
    }

    static void promise01_newObject() {
        NightLots lots = new NightLots();
        int[][] houses = {{0, 14, 10}, {1, 9, 22}, {2, 20, 35}, {3, 12, 41}, {0, 8, 60}};
        int[] burdens = {4, 7, 12, 9, 5};
        for (int i = 0; i < 5; i++) {
            for (int what = 0; what < 3; what++) {
                due("house(" + i + ", " + what + ")", lots.house(i, what), houses[i][what]);
            }
            due("tired of " + i, lots.house(i, 3), 0);
            due("hour of " + i, lots.house(i, 4), i);
            due("missed by " + i, lots.house(i, 5), 0);
            due("hour(" + i + ", 0)", lots.hour(i, 0), burdens[i]);
            due("hour(" + i + ", 1)", lots.hour(i, 1), i);
            for (int k = 0; k < 5; k++) {
                due("had(" + i + ", " + k + ")", lots.had(i, k), 0);
            }
        }
        due("house(5, 0)", lots.house(5, 0), BAD);
        int[] counts = {5, 0, 0, 0, 0, 0, 0, 0, BAD};
        for (int what = 0; what < counts.length; what++) {
            due("count(" + what + ")", lots.count(what), counts[what]);
        }
        due("fault()", lots.fault(), NONE);
        due("lay()", lots.lay(), NO);
        due("wipe()", lots.wipe(), 0);
        due("undo()", lots.undo(), NO);
        due("back()", lots.back(), NO);
        due("forget()", lots.forget(), 0);
    }

    static void promise02_write() {
        NightLots lots = new NightLots();
        due("write(31)", lots.write(31), BAD);
        due("write(127)", lots.write(127), BAD);
        for (int letter : FAR_OFF) {
            due("write(" + letter + ")", lots.write(letter), BAD);
        }
        due("write(32)", lots.write(32), 1);
        due("write(126)", lots.write(126), 2);
        for (int i = 3; i <= 200; i++) {
            due("write('n')", lots.write('n'), i);
        }
        due("write on a full text", lots.write('n'), FULL);
        due("write(31) on a full text", lots.write(31), BAD);
        due("count(7)", lots.count(7), 200);
    }

    static void promise03_wipe() {
        NightLots lots = new NightLots();
        due("wipe()", lots.wipe(), 0);
        write(lots, "n4;x");
        due("fault()", lots.fault(), 3);
        due("wipe()", lots.wipe(), 4);
        due("fault()", lots.fault(), NONE);
        due("wipe()", lots.wipe(), 0);
        due("count(0)", lots.count(0), 5);
        for (int i = 0; i < 200; i++) {
            lots.write(' ');
        }
        due("wipe()", lots.wipe(), 200);
        due("write('n')", lots.write('n'), 1);
    }

    static void promise04_fault() {
        String seven = "n1;n2;n3;n4;n5;n6;n7;";
        dueFault("", NONE);
        dueFault("n4;", NONE);
        dueFault("n0;", NONE);
        dueFault("n00;", NONE);
        dueFault("n20;", NONE);
        dueFault("n05;n4;", NONE);
        dueFault("n1;h0,0,0;", NONE);
        dueFault("n1;h3,40,99;", NONE);
        dueFault("n1;h03,09,00;", NONE);
        dueFault("n1;h0,0,0;n1;h0,0,0;", NONE);
        dueFault(seven, NONE);
        dueFault("n1;n1;h0,0,0;", NONE);
        dueFault(seven + "n8;", 21);
        dueFault("n21;", 0);
        dueFault("n1;n99;", 3);
        dueFault("n1;h4,0,0;", 3);
        dueFault("n1;h0,41,0;", 3);
        dueFault("n1;h0,0,100;", 3);
        dueFault("h0,0,0;n1;", 0);
        dueFault("n1;h0,0,0;h0,0,0;n1;", 10);
        String[] notSo = {"n", "n;", "n4", "n4,", "n4,5;", "n004;", "n-4;", "n 4;", "n4 ;", "N4;", "m4;", ";", ",", "4;", " n4;",
            "n4:", "n4/", "n4n;"};
        for (String text : notSo) {
            dueFault(text, 0);
            dueFault("n2;" + text, 3);
        }
        String[] noHouse = {"h", "h;", "h0;", "h0,0;", "h0,0,0", "h0,0,0,", "h0,0,0,0;", "h0;0;0;", "h,0,0;", "h0,,0;", "h0,0,;",
            "h000,0,0;", "h0,000,0;", "h0,0,000;", "H0,0,0;", "h0.0.0;"};
        for (String text : noHouse) {
            dueFault("n2;" + text, 3);
        }
        dueFault("n4;n21;x", 3);
        dueFault("n4; n4;", 3);
        dueFault("n4;;n4;", 3);
    }

    static void promise05_lay() {
        NightLots lots = new NightLots();
        String[] refused = {"", "n1;", "n1;h0,0,0;", "n1;n1;", "n1;n1;h0,0,0;", "n1;n1;h0,0,0;h0,0,0;h0,0,0;",
            "n1;n1;h0,0,0;h0,0,0;x", "n1;n1;h0,0,0;h0,0,0"};
        lots.pass(3);
        lots.seen(0, 0, 1);
        lots.keep();
        for (String text : refused) {
            write(lots, text);
            due("lay() of " + text, lots.lay(), NO);
        }
        due("count(0)", lots.count(0), 5);
        due("count(1)", lots.count(1), 3);
        due("count(2)", lots.count(2), 5);
        due("count(4)", lots.count(4), 1);
        due("count(5)", lots.count(5), 1);
        due("count(6)", lots.count(6), 1);
        write(lots, "n20;h1,40,99;n0;h2,7,3;");
        due("lay()", lots.lay(), 2);
        int[] counts = {2, 0, 0, 0, 0, 0, 0, 23};
        for (int what = 0; what < counts.length; what++) {
            due("count(" + what + ") when laid", lots.count(what), counts[what]);
        }
        int[][] houses = {{1, 40, 99, 0, 0, 0}, {2, 7, 3, 0, 1, 0}};
        for (int h = 0; h < 2; h++) {
            for (int what = 0; what < 6; what++) {
                due("house(" + h + ", " + what + ")", lots.house(h, what), houses[h][what]);
            }
            due("had(" + h + ", 0)", lots.had(h, 0), 0);
            due("had(" + h + ", 1)", lots.had(h, 1), 0);
        }
        due("hour(0, 0)", lots.hour(0, 0), 20);
        due("hour(1, 0)", lots.hour(1, 0), 0);
        lots.pass(1);
        due("lay() again", lots.lay(), 2);
        due("had(0, 0)", lots.had(0, 0), 0);
        due("house(0, 3)", lots.house(0, 3), 0);
        due("house(0, 4)", lots.house(0, 4), 0);
        due("undo()", lots.undo(), NO);
        due("back()", lots.back(), NO);
        write(lots, "n1;n2;n3;n4;n5;n6;n7;h0,1,1;h0,1,2;h0,1,3;h0,1,4;h0,1,5;h0,1,6;h0,1,7;");
        due("lay() of seven", lots.lay(), 7);
        due("house(6, 2)", lots.house(6, 2), 7);
    }

    static void promise06_house() {
        NightLots lots = new NightLots();
        due("house(-1, 0)", lots.house(-1, 0), BAD);
        due("house(5, 0)", lots.house(5, 0), BAD);
        due("house(0, -1)", lots.house(0, -1), BAD);
        due("house(0, 6)", lots.house(0, 6), BAD);
        for (int number : FAR_OFF) {
            due("house(" + number + ", 0)", lots.house(number, 0), BAD);
            due("house(0, " + number + ")", lots.house(0, number), BAD);
        }
        lots.pass(2);
        int[][] stands = {{4, 2, 0}, {0, 3, 2}, {4, 4, 0}, {4, 0, 0}, {4, 1, 0}};
        for (int h = 0; h < 5; h++) {
            for (int what = 3; what < 6; what++) {
                due("house(" + h + ", " + what + ")", lots.house(h, what), stands[h][what - 3]);
            }
        }
    }

    static void promise07_hour() {
        NightLots lots = new NightLots();
        due("hour(-1, 0)", lots.hour(-1, 0), BAD);
        due("hour(5, 1)", lots.hour(5, 1), BAD);
        due("hour(0, -1)", lots.hour(0, -1), BAD);
        due("hour(0, 2)", lots.hour(0, 2), BAD);
        for (int number : FAR_OFF) {
            due("hour(" + number + ", 0)", lots.hour(number, 0), BAD);
            due("hour(0, " + number + ")", lots.hour(0, number), BAD);
        }
        lots.pass(2);
        int[] houses = {3, 4, 0, 1, 2};
        for (int k = 0; k < 5; k++) {
            due("hour(" + k + ", 1)", lots.hour(k, 1), houses[k]);
        }
        lots.swap(3, 0);
        due("hour(0, 1)", lots.hour(0, 1), 0);
        due("hour(2, 1)", lots.hour(2, 1), 3);
        due("hour(2, 0)", lots.hour(2, 0), 12);
    }

    static void promise08_heavy() {
        NightLots lots = laid("n7;n2;n9;n3;h0,40,0;h1,40,0;h2,40,0;h3,40,0;");
        int[][] heavy = {{7, 2, 9, 3}, {14, 4, 18, 6}, {7, 2, 9, 3}, {4, 2, 9, 0}};
        for (int h = 0; h < 4; h++) {
            for (int k = 0; k < 4; k++) {
                due("heavy(" + h + ", " + k + ")", lots.heavy(h, k), heavy[h][k]);
            }
        }
        lots.burden(0, 2);
        due("heavy(3, 0) of 2", lots.heavy(3, 0), 0);
        lots.undo();
        lots.pass(1);
        due("heavy(2, 2), had once", lots.heavy(2, 2), 4);
        due("heavy(2, 3)", lots.heavy(2, 3), 3);
        lots.pass(1);
        due("heavy(2, 2), had as often as 3", lots.heavy(2, 2), 4);
        due("heavy(2, 3), had as often as 2", lots.heavy(2, 3), 3);
        lots.pass(1);
        due("heavy(2, 0), had as often and lowest", lots.heavy(2, 0), 3);
        due("heavy(2, 2), had as often", lots.heavy(2, 2), 9);
        lots.swap(2, 1);
        due("house(2, 4)", lots.house(2, 4), 0);
        lots.pass(1);
        due("heavy(2, 0), had twice", lots.heavy(2, 0), 3);
        due("heavy(2, 1)", lots.heavy(2, 1), 2);
        due("heavy(-1, 0)", lots.heavy(-1, 0), BAD);
        due("heavy(4, 0)", lots.heavy(4, 0), BAD);
        due("heavy(0, -1)", lots.heavy(0, -1), BAD);
        due("heavy(0, 4)", lots.heavy(0, 4), BAD);
        for (int number : FAR_OFF) {
            due("heavy(" + number + ", 0)", lots.heavy(number, 0), BAD);
            due("heavy(0, " + number + ")", lots.heavy(0, number), BAD);
        }
    }

    static void promise09_had() {
        NightLots lots = laid("n0;n20;n5;h0,5,0;h0,5,0;h0,5,0;");
        lots.pass(4);
        int[][] had = {{2, 1, 1}, {1, 2, 1}, {1, 1, 2}};
        for (int h = 0; h < 3; h++) {
            for (int k = 0; k < 3; k++) {
                due("had(" + h + ", " + k + ")", lots.had(h, k), had[h][k]);
            }
        }
        lots.swap(0, 1);
        due("had(0, 2), swapped alone", lots.had(0, 2), 1);
        lots.pass(1);
        due("had(0, 2)", lots.had(0, 2), 2);
        due("had(1, 1)", lots.had(1, 1), 3);
        lots.undo();
        due("had(0, 2), undone", lots.had(0, 2), 1);
        due("had(-1, 0)", lots.had(-1, 0), BAD);
        due("had(3, 0)", lots.had(3, 0), BAD);
        due("had(0, -1)", lots.had(0, -1), BAD);
        due("had(0, 3)", lots.had(0, 3), BAD);
        for (int number : FAR_OFF) {
            due("had(" + number + ", 0)", lots.had(number, 0), BAD);
            due("had(0, " + number + ")", lots.had(0, number), BAD);
        }
    }

    static void promise10_pass() {
        NightLots lots = new NightLots();
        due("pass(0)", lots.pass(0), BAD);
        due("pass(21)", lots.pass(21), BAD);
        due("pass(-1)", lots.pass(-1), BAD);
        for (int number : FAR_OFF) {
            due("pass(" + number + ")", lots.pass(number), BAD);
        }
        due("pass(1)", lots.pass(1), 1);
        due("tired, who kept", lots.house(0, 3), 2);
        due("tired, who missed", lots.house(1, 3), 0);
        due("pass(2)", lots.pass(2), 4);
        due("count(1)", lots.count(1), 3);
        due("count(2)", lots.count(2), 5);
        due("count(5)", lots.count(5), 2);
        // A burden of 0 is kept up to the very strength: 40, in steps of 2; with 39 there are 39 and 1 left, then a miss.
        NightLots strong = laid("n0;n0;h0,40,0;h0,39,0;");
        due("pass(20)", strong.pass(20), 0);
        due("house(0, 3)", strong.house(0, 3), 40);
        due("house(1, 3)", strong.house(1, 3), 40);
        due("pass(1)", strong.pass(1), 1);
        due("house(0, 3), 40 at most", strong.house(0, 3), 40);
        due("house(1, 3)", strong.house(1, 3), 37);
        due("pass(2)", strong.pass(2), 0);
        due("house(1, 3), 41 is 40", strong.house(1, 3), 40);
        // The one misses all nights, the other every second one: tired by 2, then by 3 less, which is 0 at least.
        due("pass(20)", laid("n1;n1;h0,0,0;h0,1,0;").pass(20), 30);
        NightLots late = new NightLots();
        for (int i = 0; i < 49; i++) {
            late.pass(20);
        }
        due("count(1)", late.count(1), 980);
        due("pass(20)", late.pass(20), NO);
        due("pass(21)", late.pass(21), BAD);
        due("count(1)", late.count(1), 980);
        due("pass(19) is not refused", late.pass(19) >= 0 ? 1 : 0, 1);
        due("count(1)", late.count(1), 999);
        due("pass(1)", late.pass(1), NO);
        due("count(5)", late.count(5), 8);
        due("behind(40, 0, 1)", late.behind(40, 0, 1), 4);
        due("undo()", late.undo(), 7);
        due("count(1)", late.count(1), 980);
    }

    static void promise11_swap() {
        NightLots lots = new NightLots();
        due("swap(0, 0)", lots.swap(0, 0), BAD);
        due("swap(-1, 0)", lots.swap(-1, 0), BAD);
        due("swap(0, -1)", lots.swap(0, -1), BAD);
        due("swap(5, 0)", lots.swap(5, 0), BAD);
        due("swap(0, 5)", lots.swap(0, 5), BAD);
        due("swap(-1, -1)", lots.swap(-1, -1), BAD);
        for (int number : FAR_OFF) {
            due("swap(" + number + ", 0)", lots.swap(number, 0), BAD);
            due("swap(0, " + number + ")", lots.swap(0, number), BAD);
        }
        due("count(5)", lots.count(5), 0);
        due("swap(1, 4)", lots.swap(1, 4), 4);
        due("house(4, 4)", lots.house(4, 4), 1);
        due("house(1, 3)", lots.house(1, 3), 0);
        due("swap(4, 0)", lots.swap(4, 0), 0);
        due("house(0, 4)", lots.house(0, 4), 1);
        due("count(5)", lots.count(5), 2);
        due("swap(0, 4)", lots.swap(0, 4), 0);
    }

    static void promise12_rest() {
        NightLots lots = new NightLots();
        due("rest(0)", lots.rest(0), NO);
        due("rest(-1)", lots.rest(-1), BAD);
        due("rest(5)", lots.rest(5), BAD);
        for (int number : FAR_OFF) {
            due("rest(" + number + ")", lots.rest(number), BAD);
        }
        due("count(5)", lots.count(5), 0);
        lots.pass(1);
        due("rest(2)", lots.rest(2), 0);
        due("rest(2)", lots.rest(2), NO);
        due("count(3)", lots.count(3), 6);
        due("house(2, 4)", lots.house(2, 4), 3);
        due("count(5)", lots.count(5), 2);
        NightLots strong = laid("n0;n0;h0,40,0;h0,39,0;");
        strong.pass(3);
        due("rest(0) of 6", strong.rest(0), 1);
        due("rest(0) of 1", strong.rest(0), 0);
        due("rest(0) of 0", strong.rest(0), NO);
        due("house(1, 3)", strong.house(1, 3), 6);
    }

    static void promise13_burden() {
        NightLots lots = new NightLots();
        due("burden(-1, 0)", lots.burden(-1, 0), BAD);
        due("burden(5, 0)", lots.burden(5, 0), BAD);
        due("burden(0, -1)", lots.burden(0, -1), BAD);
        due("burden(0, 21)", lots.burden(0, 21), BAD);
        due("burden(0, 4)", lots.burden(0, 4), NO);
        for (int number : FAR_OFF) {
            due("burden(" + number + ", 0)", lots.burden(number, 0), BAD);
            due("burden(0, " + number + ")", lots.burden(0, number), BAD);
        }
        due("count(5)", lots.count(5), 0);
        due("burden(0, 0)", lots.burden(0, 0), 4);
        due("burden(0, 20)", lots.burden(0, 20), 0);
        due("burden(0, 20)", lots.burden(0, 20), NO);
        due("gaps()", lots.gaps(), 3);
        due("hour(0, 0)", lots.hour(0, 0), 20);
        due("burden(4, 4)", lots.burden(4, 4), 5);
        due("count(5)", lots.count(5), 3);
        lots.pass(1);
        due("the burden stays with the hour", lots.hour(0, 0), 20);
    }

    static void promise14_undo() {
        NightLots lots = new NightLots();
        due("undo()", lots.undo(), NO);
        lots.swap(0, 0);
        lots.rest(0);
        lots.burden(0, 4);
        lots.pass(0);
        due("undo() of what was refused", lots.undo(), NO);
        lots.pass(3);
        lots.rest(2);
        lots.swap(0, 1);
        lots.burden(0, 1);
        due("count(5)", lots.count(5), 4);
        due("undo() of burden", lots.undo(), 3);
        due("hour(0, 0)", lots.hour(0, 0), 4);
        due("house(0, 4)", lots.house(0, 4), 4);
        due("undo() of swap", lots.undo(), 2);
        due("house(0, 4)", lots.house(0, 4), 3);
        due("house(2, 3)", lots.house(2, 3), 1);
        due("undo() of rest", lots.undo(), 1);
        due("house(2, 3)", lots.house(2, 3), 6);
        due("count(1)", lots.count(1), 3);
        due("undo() of pass", lots.undo(), 0);
        int[] counts = {5, 0, 0, 0, 0, 0, 0, 0};
        for (int what = 0; what < counts.length; what++) {
            due("count(" + what + ") undone", lots.count(what), counts[what]);
        }
        due("house(1, 5)", lots.house(1, 5), 0);
        due("had(0, 0)", lots.had(0, 0), 0);
        due("undo()", lots.undo(), NO);
        for (int b = 10; b < 20; b++) {
            lots.burden(2, b);
        }
        due("count(5), 12 being no change", lots.count(5), 8);
        for (int left = 7; left >= 0; left--) {
            due("undo()", lots.undo(), left);
        }
        due("undo(), 8 at most", lots.undo(), NO);
        due("hour(2, 0)", lots.hour(2, 0), 11);
        lots.seen(0, 1, 1);
        lots.keep();
        lots.write('n');
        lots.swap(0, 1);
        due("undo()", lots.undo(), 0);
        due("count(4) stays", lots.count(4), 1);
        due("count(6) stays", lots.count(6), 1);
        due("count(7) stays", lots.count(7), 1);
    }

    static void promise15_behind() {
        NightLots lots = new NightLots();
        due("behind(-1, 0, 0)", lots.behind(-1, 0, 0), BAD);
        due("behind(41, 0, 0)", lots.behind(41, 0, 0), BAD);
        due("behind(0, -1, 0)", lots.behind(0, -1, 0), BAD);
        due("behind(0, 5, 0)", lots.behind(0, 5, 0), BAD);
        due("behind(0, 0, -1)", lots.behind(0, 0, -1), BAD);
        due("behind(0, 0, 2)", lots.behind(0, 0, 2), BAD);
        for (int number : FAR_OFF) {
            due("behind(" + number + ", 0, 0)", lots.behind(number, 0, 0), BAD);
            due("behind(0, " + number + ", 0)", lots.behind(0, number, 0), BAD);
            due("behind(0, 0, " + number + ")", lots.behind(0, 0, number), BAD);
        }
        due("behind(0, 3, 0)", lots.behind(0, 3, 0), 0);
        due("behind(0, 3, 1)", lots.behind(0, 3, 1), 3);
        // House 0: 4 and 7 are kept, 12 is missed (14 less 4), 9 is kept, then 5.
        int[] tired = {0, 2, 4, 1, 3, 5};
        for (int n = 0; n < tired.length; n++) {
            due("behind(" + n + ", 0, 0)", lots.behind(n, 0, 0), tired[n]);
            due("behind(" + n + ", 0, 1)", lots.behind(n, 0, 1), n % 5);
        }
        due("behind(40, 2, 1)", lots.behind(40, 2, 1), 2);
        due("count(1)", lots.count(1), 0);
        due("count(3)", lots.count(3), 0);
        due("house(0, 4)", lots.house(0, 4), 0);
        due("had(0, 0)", lots.had(0, 0), 0);
        NightLots strong = laid("n0;n0;h0,40,0;h0,39,0;");
        due("behind(40, 0, 0)", strong.behind(40, 0, 0), 40);
        due("behind(39, 0, 1)", strong.behind(39, 0, 1), 1);
    }

    static void promise16_gaps() {
        NightLots lots = new NightLots();
        due("gaps()", lots.gaps(), 2);
        lots.swap(0, 1);
        due("gaps() without one", lots.gaps(), 0);
        NightLots seven = laid("n1;n1;n1;n1;n1;n1;n1;h0,0,0;h0,0,0;h0,1,0;h0,0,0;h0,0,0;h0,0,0;h0,0,0;");
        due("gaps() of hours", seven.gaps(), 123);
        seven.swap(2, 6);
        due("gaps() goes by hours", seven.gaps(), 63);
        due("count(2)", seven.count(2), 0);
        seven.pass(1);
        due("gaps() of the next night", seven.gaps(), 127);
    }

    static void promise17_first() {
        NightLots lots = new NightLots();
        int[] nights = {3, 1, 6, 4, 3};
        for (int h = 0; h < 5; h++) {
            due("first(" + h + ")", lots.first(h), nights[h]);
        }
        due("first(-1)", lots.first(-1), BAD);
        due("first(5)", lots.first(5), BAD);
        for (int number : FAR_OFF) {
            due("first(" + number + ")", lots.first(number), BAD);
        }
        lots.pass(1);
        due("first(1), what it missed by now aside", lots.first(1), 1);
        due("first(0)", lots.first(0), 2);
        // Tired by 2 a night: the burden 2 is above what is left from 38 on, behind 19 nights; 0 never.
        NightLots late = laid("n2;n2;h0,39,0;h0,40,0;");
        due("first(0)", late.first(0), 20);
        due("first(1)", late.first(1), 21);
        NightLots never = laid("n0;n0;h0,40,0;h2,40,0;");
        due("first(0), never", never.first(0), NONE);
        // Hours of 0 are kept until behind 20 nights it is tired by 40; it stays so, hence none in 40 nights either.
        never.pass(20);
        due("first(0), never", never.first(0), NONE);
        due("count(1)", never.count(1), 20);
    }

    static void promise18_even() {
        NightLots lots = new NightLots();
        due("even(-1)", lots.even(-1), 0);
        int[] hours = {1, 0, 2, 3, 4};
        for (int h = 0; h < 5; h++) {
            due("even(" + h + ")", lots.even(h), hours[h]);
        }
        due("even(-2)", lots.even(-2), BAD);
        due("even(5)", lots.even(5), BAD);
        for (int number : FAR_OFF) {
            due("even(" + number + ")", lots.even(number), BAD);
        }
        due("house(0, 4) stays", lots.house(0, 4), 0);
        // All keep all: heaviest is the young one at the heaviest hour; of the plain ones the first way.
        NightLots young = laid("n3;n9;n5;h0,40,0;h1,40,0;h0,40,0;");
        due("even(-1)", young.even(-1), 0);
        due("even(0)", young.even(0), 0);
        due("even(1)", young.even(1), 1);
        due("even(2)", young.even(2), 2);
        NightLots later = laid("n3;n9;n5;h1,40,0;h0,40,0;h0,40,0;");
        due("even(0), heaviest", later.even(0), 1);
        due("even(1)", later.even(1), 0);
        due("even(2)", later.even(2), 2);
        NightLots alike = laid("n3;n3;n3;h0,40,0;h0,40,0;h0,40,0;");
        alike.pass(1);
        due("even(0), the first way", alike.even(0), 0);
        due("even(1)", alike.even(1), 1);
        // Fewest gaps go ahead of the heaviest: 20 is kept by one alone, but then the other can't keep 10.
        NightLots two = laid("n10;n20;n9;h0,20,0;h0,10,0;h0,9,0;");
        due("even(-1)", two.even(-1), 0);
        due("even(0)", two.even(0), 1);
        NightLots gap = laid("n10;n20;h0,10,0;h0,9,0;");
        due("even(-1), one gap", gap.even(-1), 1);
        due("even(0)", gap.even(0), 0);
        due("even(1)", gap.even(1), 1);
        NightLots none = laid("n10;n20;h0,1,0;h0,9,0;");
        due("even(-1), all gaps", none.even(-1), 2);
        due("even(0)", none.even(0), 0);
    }

    static void promise19_swaps() {
        NightLots lots = new NightLots();
        due("swaps()", lots.swaps(), 1);
        lots.swap(0, 1);
        due("swaps() without a gap", lots.swaps(), 0);
        due("swaps() where there is no way", laid("n10;n20;h0,10,0;h0,9,0;").swaps(), NONE);
        // Only one way has no gap: each of seven one hour further on, six swaps in one round.
        NightLots round = laid("n7;n1;n2;n3;n4;n5;n6;h0,1,0;h0,2,0;h0,3,0;h0,4,0;h0,5,0;h0,6,0;h0,7,0;");
        due("gaps()", round.gaps(), 1);
        due("swaps() of seven in a round", round.swaps(), 6);
        NightLots pairs = laid("n2;n1;n4;n3;h0,1,0;h0,2,0;h0,3,0;h0,4,0;");
        due("swaps() of two pairs", pairs.swaps(), 2);
        NightLots threes = laid("n2;n3;n1;h1,2,0;h0,2,0;h0,3,0;");
        due("swaps() of three in a round", threes.swaps(), 2);
        due("house(0, 4) stays", threes.house(0, 4), 0);
        due("count(5)", threes.count(5), 0);
    }

    static void promise20_far() {
        NightLots lots = new NightLots();
        due("far(0)", lots.far(0), 50);
        due("far(1)", lots.far(1), 50);
        due("far(-1)", lots.far(-1), BAD);
        due("far(2)", lots.far(2), BAD);
        for (int number : FAR_OFF) {
            due("far(" + number + ")", lots.far(number), BAD);
        }
        lots.swap(0, 1);
        due("far(0), to and fro", lots.far(0), 12 + 25 + 6 + 19);
        due("far(1)", lots.far(1), 50);
        lots.pass(1);
        due("far(0), gone round", lots.far(0), 38 + 12 + 25 + 6);
        NightLots ends = laid("n1;n1;n1;n1;h0,0,99;h0,0,0;h0,0,99;h0,0,0;");
        due("far(0)", ends.far(0), 297);
        due("far(1)", ends.far(1), 99);
        NightLots middle = laid("n1;n1;n1;h0,0,50;h0,0,20;h0,0,60;");
        due("far(0)", middle.far(0), 70);
        due("far(1)", middle.far(1), 40);
        NightLots alike = laid("n1;n1;h0,0,7;h0,0,7;");
        due("far(0), alike", alike.far(0), 0);
        due("far(1), alike", alike.far(1), 0);
        due("far(1), all at 0", laid("n1;n1;h0,0,0;h0,0,0;").far(1), 0);
        due("far(1), all at 99", laid("n1;n1;h0,0,99;h0,0,99;").far(1), 0);
    }

    static void promise21_lamps() {
        NightLots lots = new NightLots();
        due("lamps(0, 0)", lots.lamps(0, 0), BAD);
        due("lamps(41, 0)", lots.lamps(41, 0), BAD);
        due("lamps(1, -1)", lots.lamps(1, -1), BAD);
        due("lamps(1, 2)", lots.lamps(1, 2), BAD);
        for (int number : FAR_OFF) {
            due("lamps(" + number + ", 0)", lots.lamps(number, 0), BAD);
            due("lamps(1, " + number + ")", lots.lamps(1, number), BAD);
        }
        due("lamps(1, 0), none", lots.lamps(1, 0), NONE);
        due("lamps(1, 1), none", lots.lamps(1, 1), NONE);
        lots.swap(0, 1);
        due("lamps(1, 0)", lots.lamps(1, 0), 0);
        due("lamps(1, 1)", lots.lamps(1, 1), 0);
        // Tired by 6 behind three nights: 5 is kept with strength 10 only by whom rest takes to 1; strength 40 needs none.
        NightLots tired = laid("n5;n5;n5;h0,10,0;h0,40,0;h0,10,0;");
        due("pass(3)", tired.pass(3), 0);
        due("gaps()", tired.gaps(), 5);
        due("lamps(1, 0)", tired.lamps(1, 0), 2);
        due("lamps(1, 1)", tired.lamps(1, 1), 5);
        due("lamps(3, 0)", tired.lamps(3, 0), 2);
        due("lamps(4, 0), tired anew", tired.lamps(4, 0), NONE);
        due("count(3) stays", tired.count(3), 18);
        NightLots never = laid("n0;n0;h0,40,0;h2,40,0;");
        due("lamps(40, 0)", never.lamps(40, 0), 0);
        due("lamps(40, 1)", never.lamps(40, 1), 0);
    }

    static void promise22_seen() {
        NightLots lots = new NightLots();
        due("seen(-1, 0, 0)", lots.seen(-1, 0, 0), BAD);
        due("seen(21, 0, 0)", lots.seen(21, 0, 0), BAD);
        due("seen(0, -1, 0)", lots.seen(0, -1, 0), BAD);
        due("seen(0, 5, 0)", lots.seen(0, 5, 0), BAD);
        due("seen(0, 0, -1)", lots.seen(0, 0, -1), BAD);
        due("seen(0, 0, 2)", lots.seen(0, 0, 2), BAD);
        for (int number : FAR_OFF) {
            due("seen(" + number + ", 0, 0)", lots.seen(number, 0, 0), BAD);
            due("seen(0, " + number + ", 0)", lots.seen(0, number, 0), BAD);
            due("seen(0, 0, " + number + ")", lots.seen(0, 0, number), BAD);
        }
        due("count(4)", lots.count(4), 0);
        for (int i = 1; i <= 6; i++) {
            due("seen(20, 4, 1)", lots.seen(20, 4, 1), i);
        }
        due("seen(0, 0, 0), full", lots.seen(0, 0, 0), FULL);
        due("seen(0, 0, 2), full", lots.seen(0, 0, 2), BAD);
        due("count(4)", lots.count(4), 6);
        due("count(5)", lots.count(5), 0);
    }

    static void promise23_forget() {
        NightLots lots = new NightLots();
        due("forget()", lots.forget(), 0);
        lots.seen(0, 0, 1);
        lots.seen(0, 1, 1);
        due("kinds(0)", lots.kinds(0), 0);
        due("forget()", lots.forget(), 2);
        due("kinds(0)", lots.kinds(0), 15);
        due("count(4)", lots.count(4), 0);
        due("forget()", lots.forget(), 0);
        due("seen(0, 0, 1)", lots.seen(0, 0, 1), 1);
    }

    static void promise24_kinds() {
        NightLots lots = new NightLots();
        due("kinds(-1)", lots.kinds(-1), BAD);
        due("kinds(5)", lots.kinds(5), BAD);
        for (int number : FAR_OFF) {
            due("kinds(" + number + ")", lots.kinds(number), BAD);
        }
        due("kinds(0), nothing seen", lots.kinds(0), 15);
        lots.seen(0, 1, 1);
        due("kinds(1)", lots.kinds(1), 2);
        due("kinds(0)", lots.kinds(0), 15);
        due("house(1, 0) stays", lots.house(1, 0), 1);
        lots.forget();
        lots.seen(0, 1, 0);
        due("kinds(1)", lots.kinds(1), 13);
        due("kinds(0), another's gap", lots.kinds(0), 0);
        // House 1 comes from hour 1 to hour 0: tired by 2 then, it keeps 6 as a gay one, but not 9; as a young one it misses both.
        NightLots two = laid("n9;n9;h0,40,0;h0,10,0;");
        two.seen(1, 0, 0);
        due("kinds(1)", two.kinds(1), 8);
        two.forget();
        two.seen(1, 0, 1);
        due("kinds(1)", two.kinds(1), 7);
        two.seen(0, 1, 0);
        due("kinds(1), all that is seen", two.kinds(1), 5);
        two.forget();
        two.seen(0, 1, 1);
        two.pass(1);
        due("kinds(1), by how all stands now", two.kinds(1), 0);
        two.swap(0, 1);
        // House 1 now has hour 1, that it had once, tired by 2: 4 for a widowed one, 6 for a gay one, 9 for a plain one.
        due("kinds(1)", two.kinds(1), 3);
    }

    static void promise25_strengths() {
        NightLots lots = new NightLots();
        due("strengths(-1, 0)", lots.strengths(-1, 0), BAD);
        due("strengths(5, 0)", lots.strengths(5, 0), BAD);
        due("strengths(0, -1)", lots.strengths(0, -1), BAD);
        due("strengths(0, 2)", lots.strengths(0, 2), BAD);
        for (int number : FAR_OFF) {
            due("strengths(" + number + ", 0)", lots.strengths(number, 0), BAD);
            due("strengths(0, " + number + ")", lots.strengths(0, number), BAD);
        }
        due("strengths(1, 0), nothing seen", lots.strengths(1, 0), 41);
        due("strengths(1, 1), nothing seen", lots.strengths(1, 1), 0);
        lots.seen(0, 1, 1);
        due("strengths(1, 0), below 14", lots.strengths(1, 0), 14);
        due("strengths(1, 1)", lots.strengths(1, 1), 0);
        lots.seen(0, 3, 0);
        due("strengths(3, 0), 9 and more", lots.strengths(3, 0), 32);
        due("strengths(3, 1)", lots.strengths(3, 1), 9);
        due("house(3, 1) stays", lots.house(3, 1), 12);
        lots.seen(0, 1, 0);
        due("strengths(1, 0), no way", lots.strengths(1, 0), 0);
        due("strengths(1, 1), no way", lots.strengths(1, 1), NONE);
        lots.forget();
        // House 0 keeps 4, then is tired by 2 at 7: 9 and more; with less than 4 it is not tired, but misses 7 all the same.
        lots.seen(1, 1, 0);
        due("strengths(0, 0)", lots.strengths(0, 0), 32);
        due("strengths(0, 1)", lots.strengths(0, 1), 9);
    }

    static void promise26_likely() {
        NightLots lots = new NightLots();
        due("likely(-1, 0, 0)", lots.likely(-1, 0, 0), BAD);
        due("likely(5, 0, 0)", lots.likely(5, 0, 0), BAD);
        due("likely(0, -1, 0)", lots.likely(0, -1, 0), BAD);
        due("likely(0, 10, 0)", lots.likely(0, 10, 0), BAD);
        due("likely(0, 0, -1)", lots.likely(0, 0, -1), BAD);
        due("likely(0, 0, 2)", lots.likely(0, 0, 2), BAD);
        for (int number : FAR_OFF) {
            due("likely(" + number + ", 0, 0)", lots.likely(number, 0, 0), BAD);
            due("likely(0, " + number + ", 0)", lots.likely(0, number, 0), BAD);
            due("likely(0, 0, " + number + ")", lots.likely(0, 0, number), BAD);
        }
        due("likely(1, 0, 0)", lots.likely(1, 0, 0), 1);
        due("likely(1, 0, 1)", lots.likely(1, 0, 1), 5);
        due("likely(4, 5, 0)", lots.likely(4, 5, 0), 3);
        due("likely(4, 5, 1)", lots.likely(4, 5, 1), 10);
        due("likely(0, 0, 0), sure", lots.likely(0, 0, 0), 1);
        due("likely(0, 0, 1), sure", lots.likely(0, 0, 1), 1);
        // Strength 14, tired by 3 more: 12 is kept by 7 of ten alone, the other four always: 47 of 50.
        due("likely(0, 3, 0)", lots.likely(0, 3, 0), 47);
        due("likely(0, 3, 1)", lots.likely(0, 3, 1), 50);
        NightLots weak = laid("n1;n2;n3;h0,0,0;h0,3,0;h0,2,0;");
        due("likely(0, 5, 0), never", weak.likely(0, 5, 0), 0);
        due("likely(0, 5, 1), never", weak.likely(0, 5, 1), 1);
        due("likely(1, 9, 0)", weak.likely(1, 9, 0), 1);
        due("likely(1, 9, 1)", weak.likely(1, 9, 1), 10);
        due("likely(2, 1, 0)", weak.likely(2, 1, 0), 19);
        due("likely(2, 1, 1)", weak.likely(2, 1, 1), 30);
        NightLots even = laid("n1;n1;h0,1,0;h0,1,0;");
        due("likely(0, 1, 0), 18 of 20", even.likely(0, 1, 0), 9);
        due("likely(0, 1, 1), 18 of 20", even.likely(0, 1, 1), 10);
        NightLots strong = laid("n0;n0;h0,40,0;h0,39,0;");
        strong.pass(19);
        strong.pass(1);
        due("likely(0, 9, 0), 40 at most", strong.likely(0, 9, 0), 1);
        due("likely(0, 9, 1), 40 at most", strong.likely(0, 9, 1), 1);
        due("likely(1, 9, 0)", strong.likely(1, 9, 0), 0);
        due("house(0, 3) stays", strong.house(0, 3), 40);
    }

    static void promise27_winter() {
        NightLots lots = new NightLots();
        due("winter(-1, 1, 0)", lots.winter(-1, 1, 0), BAD);
        due("winter(10000, 1, 0)", lots.winter(10000, 1, 0), BAD);
        due("winter(0, 0, 0)", lots.winter(0, 0, 0), BAD);
        due("winter(0, 61, 0)", lots.winter(0, 61, 0), BAD);
        due("winter(0, 1, -1)", lots.winter(0, 1, -1), BAD);
        due("winter(0, 1, 3)", lots.winter(0, 1, 3), BAD);
        for (int number : FAR_OFF) {
            if (number < 0 || number > 9999) {
                due("winter(" + number + ", 1, 0)", lots.winter(number, 1, 0), BAD);
            }
            due("winter(0, " + number + ", 0)", lots.winter(0, number, 0), BAD);
            due("winter(0, 1, " + number + ")", lots.winter(0, 1, number), BAD);
        }
        // z 0, night 0: x is 1, DRAW 0: house 0 would swap with itself.
        due("winter(0, 1, 0)", lots.winter(0, 1, 0), 1);
        due("winter(0, 1, 1)", lots.winter(0, 1, 1), 8);
        due("winter(0, 1, 2)", lots.winter(0, 1, 2), 1);
        // Night 1: x is 6152, its square 37847104, modulo 65521 41487, DRAW 20743: house 3, house 2, by 64 324: a swap.
        // House 2 then has hour 4 (5, tired by 2: kept), house 3 hour 3 (9 and 2 of 12: kept); 0 keeps, 1 misses, 4 keeps.
        due("winter(0, 2, 0)", lots.winter(0, 2, 0), 2);
        due("winter(0, 2, 1)", lots.winter(0, 2, 1), 16);
        due("winter(0, 2, 2)", lots.winter(0, 2, 2), 2);
        int[][] winters = {{0, 60}, {1, 60}, {7, 33}, {5000, 7}, {9998, 60}, {9999, 60}, {9999, 1}};
        for (int[] z : winters) {
            checkWinter(z[0], z[1]);
        }
    }

    /** The same winter, done by the calls that act, with another way of working out what is drawn. */
    private static void checkWinter(int z, int nights) {
        NightLots asked = new NightLots();
        NightLots acted = new NightLots();
        asked.pass(1);
        acted.pass(1);
        for (int night = 0; night < nights; night++) {
            act(acted, z, night);
            acted.pass(1);
        }
        String winter = "winter(" + z + ", " + nights + ", ";
        due(winter + "0)", asked.winter(z, nights, 0), acted.count(2) - 1);
        due(winter + "1)", asked.winter(z, nights, 1), acted.count(3));
        due(winter + "2)", asked.winter(z, nights, 2), acted.house(0, 4));
        int[] counts = {5, 1, 1, 8, 0, 1, 0, 0};
        for (int what = 0; what < counts.length; what++) {
            due("count(" + what + ") stays", asked.count(what), counts[what]);
        }
        due("hour(0, 0) stays", asked.hour(0, 0), 4);
        due("hour(0, 1) stays", asked.hour(0, 1), 4);
    }

    private static void act(NightLots lots, int z, int night) {
        long rest = (7919L * z + 6151L * night + 1) % 65521;
        int draw = (int) (rest * rest % 65521) >> 1;
        int one = draw % 5;
        int other = (draw >> 3) % 5;
        int deed = (draw >> 6) % 4;
        if (deed == 0) {
            lots.swap(one, other);
        } else if (deed == 1) {
            lots.rest(one);
        } else if (deed == 2) {
            lots.burden(lots.house(one, 4), (draw >> 8) % 21);
        }
    }

    static void promise28_keep() {
        NightLots lots = new NightLots();
        due("keep()", lots.keep(), 1);
        due("keep()", lots.keep(), 2);
        due("keep()", lots.keep(), FULL);
        due("count(6)", lots.count(6), 2);
        lots.back();
        lots.pass(1);
        due("keep()", lots.keep(), 2);
        due("count(5) stays", lots.count(5), 1);
        due("undo()", lots.undo(), 0);
        due("back()", lots.back(), 1);
        due("count(1)", lots.count(1), 1);
    }

    static void promise29_back() {
        NightLots lots = new NightLots();
        due("back()", lots.back(), NO);
        lots.keep();
        lots.pass(3);
        lots.burden(0, 20);
        lots.keep();
        lots.swap(0, 1);
        lots.pass(2);
        lots.write('n');
        lots.seen(0, 0, 1);
        due("back()", lots.back(), 1);
        int[] counts = {5, 3, 5, 14, 1, 0, 1, 1};
        for (int what = 0; what < counts.length; what++) {
            due("count(" + what + ") behind back()", lots.count(what), counts[what]);
        }
        due("hour(0, 0)", lots.hour(0, 0), 20);
        due("house(0, 4)", lots.house(0, 4), 3);
        due("had(0, 2)", lots.had(0, 2), 1);
        due("house(1, 5)", lots.house(1, 5), 3);
        due("undo()", lots.undo(), NO);
        due("back()", lots.back(), 0);
        due("hour(0, 0)", lots.hour(0, 0), 4);
        due("count(1)", lots.count(1), 0);
        due("count(2)", lots.count(2), 0);
        due("house(1, 5)", lots.house(1, 5), 0);
        due("had(0, 2)", lots.had(0, 2), 0);
        due("back()", lots.back(), NO);
    }

    static void promise30_count() {
        NightLots lots = new NightLots();
        due("count(-1)", lots.count(-1), BAD);
        due("count(8)", lots.count(8), BAD);
        for (int number : FAR_OFF) {
            due("count(" + number + ")", lots.count(number), BAD);
        }
        lots.write('n');
        lots.write('1');
        lots.write(';');
        lots.pass(2);
        lots.rest(0);
        lots.seen(0, 0, 0);
        lots.keep();
        int[] counts = {5, 2, 2, 12, 1, 2, 1, 3};
        for (int what = 0; what < counts.length; what++) {
            due("count(" + what + ")", lots.count(what), counts[what]);
        }
        lots.undo();
        lots.undo();
        due("count(2), undone", lots.count(2), 0);
        due("count(2), behind back()", lots.back() * 10 + lots.count(2), 2);
    }
}
