import java.lang.reflect.InvocationTargetException;
import java.lang.reflect.Method;
import java.util.ArrayList;
import java.util.Comparator;
import java.util.List;
import java.util.function.Supplier;

/** What tests of single sentences share: answers held against what is due, valleys, and all that the calls tell of one. */
abstract class Checks {
    static final int BAD = -1, NO = -2, FULL = -3, NONE = -4;
    static final int[] FAR_OFF = {Integer.MIN_VALUE, Integer.MIN_VALUE + 1, -1000, 65536, Integer.MAX_VALUE - 1,
        Integer.MAX_VALUE};
    private static String test = "";
    private static int wrong = 0;

    interface Call {
        int of(NightLots lots);
    }

    interface CallWith {
        int of(NightLots lots, int number);
    }

    /** Runs every method named after a promise, so that none can be left out. */
    static void runAll(Class<?> tests) {
        List<Method> methods = new ArrayList<>();
        for (Method method : tests.getDeclaredMethods()) {
            if (method.getName().startsWith("promise")) {
                methods.add(method);
            }
        }
        methods.sort(Comparator.comparing(Method::getName));
        for (Method method : methods) {
            test = method.getName();
            run(method);
        }
        System.out.println(tests.getName() + ": " + methods.size() + " tests, "
                + (wrong == 0 ? "all answers are as due" : wrong + " answers are not as due"));
        if (wrong != 0 || methods.isEmpty()) {
            System.exit(1);
        }
    }

    private static void run(Method method) {
        try {
            method.invoke(null);
        } catch (InvocationTargetException thrown) {
            fail("threw " + thrown.getCause());
        } catch (IllegalAccessException unseen) {
            fail("can't be run: " + unseen);
        }
    }

    static void fail(String what) {
        wrong++;
        System.out.println(test + ": " + what);
    }

    static void due(String call, int got, int want) {
        if (got != want) {
            fail(call + " answered " + got + ", due is " + want);
        }
    }

    static void write(NightLots lots, String text) {
        lots.wipe();
        for (char letter : text.toCharArray()) {
            lots.write(letter);
        }
    }

    static NightLots laid(String text) {
        NightLots lots = new NightLots();
        write(lots, text);
        if (lots.lay() < 0) {
            fail("not laid: " + text);
        }
        return lots;
    }

    /** Three houses, tired (2 is not), with misses, with acts that can be undone, with something seen and kept aside. */
    static NightLots busy() {
        NightLots lots = laid("n4;n9;n6;h0,14,10;h2,9,22;h3,2,41;");
        lots.pass(2);
        lots.keep();
        lots.burden(1, 12);
        lots.pass(1);
        lots.swap(0, 2);
        lots.rest(1);
        lots.seen(0, 1, 1);
        lots.seen(2, 0, 0);
        lots.wipe();
        return lots;
    }

    static NightLots busyWithText() {
        NightLots lots = busy();
        write(lots, "n4;n7;h0,14,10;x");
        return lots;
    }

    /** Two houses that keep all their hours, of burden 0, in this night. */
    static NightLots atNight(int night) {
        NightLots lots = laid("n0;n0;h0,40,0;h0,40,99;");
        for (int left = night; left > 0; left -= 20) {
            lots.pass(Math.min(left, 20));
        }
        due("the night", lots.count(1), night);
        return lots;
    }

    /** In night 999, house 0 having hour 1: burden 0 is missed by who is tired by 40 of strength 39. */
    static NightLots atNight999TiredBy37() {
        NightLots lots = laid("n0;n0;h0,39,0;h0,40,0;");
        for (int i = 0; i < 49; i++) {
            lots.pass(20);
        }
        lots.pass(19);
        due("the night", lots.count(1), 999);
        // Behind 20 nights it is tired by 40 and misses, keeps by 37 and by 39, misses by 40 again: 979 nights are 326 such
        // rounds and one night.
        due("how tired house 0 is", lots.house(0, 3), 37);
        return lots;
    }

    static NightLots two() {
        return atNight(3);
    }

    static NightLots seven() {
        return laid("n1;n2;n3;n4;n5;n6;n7;" + "h0,9,1;".repeat(7));
    }

    /** House 0, of two, of this kind and strength, tired by so much: it has kept hours of burden 0 until then. */
    static NightLots tiredBy(int tired, int kind, int strength) {
        NightLots lots = laid("n0;n0;h" + kind + "," + strength + ",0;h0,40,0;");
        int nights = tired / 2;
        if (tired % 2 == 1) {
            lots.pass(3);
            lots.rest(0);
        }
        for (int i = 0; i < nights; i++) {
            lots.pass(1);
        }
        due("how tired house 0 is", lots.house(0, 3), tired);
        return lots;
    }

    static void dueFault(String text, int want) {
        NightLots lots = new NightLots();
        write(lots, text);
        due("fault() of \"" + text + "\"", lots.fault(), want);
        due("fault() of \"" + text + "\" again", lots.fault(), want);
        due("length of \"" + text + "\"", lots.count(7), text.length());
    }

    static void dueLay(String text, int want) {
        NightLots lots = new NightLots();
        write(lots, text);
        due("lay() of \"" + text + "\"", lots.lay(), want);
        due("houses of \"" + text + "\"", lots.count(0), want == NO ? 5 : want);
        due("length of \"" + text + "\"", lots.count(7), text.length());
    }

    static void dueCounts(String when, NightLots lots, int... counts) {
        for (int what = 0; what < counts.length; what++) {
            due("count(" + what + ") " + when, lots.count(what), counts[what]);
        }
    }

    /** The call is refused with this answer, and nothing changes by it. */
    static void refused(Supplier<NightLots> valley, String call, int want, Call asked) {
        due(call, asked.of(valley.get()), want);
        changesNothing(valley, call, asked);
    }

    /** What the calls tell then is what they tell without it: at once, undone step by step, and taken back. */
    static void changesNothing(Supplier<NightLots> valley, String call, Call asked) {
        same("behind " + call, told(behind(valley, asked)), told(valley.get()));
        same("undone behind " + call, stepByStep(behind(valley, asked), NightLots::undo),
                stepByStep(valley.get(), NightLots::undo));
        same("taken back behind " + call, stepByStep(behind(valley, asked), NightLots::back),
                stepByStep(valley.get(), NightLots::back));
    }

    private static NightLots behind(Supplier<NightLots> valley, Call asked) {
        NightLots lots = valley.get();
        asked.of(lots);
        return lots;
    }

    static void same(String when, List<String> got, List<String> want) {
        for (int i = 0; i < Math.max(got.size(), want.size()); i++) {
            String one = i < got.size() ? got.get(i) : "no more";
            String other = i < want.size() ? want.get(i) : "no more";
            if (!one.equals(other)) {
                fail(when + ": " + one + ", due is " + other);
                return;
            }
        }
    }

    /** At the bounds and just inside them the call is not BAD; outside of them it is, and nothing changes. */
    static void bounds(Supplier<NightLots> valley, String call, int least, int most, CallWith asked) {
        for (int number : new int[] {least, Math.min(least + 1, most), Math.max(most - 1, least), most}) {
            String told = call.replace("?", "" + number);
            if (asked.of(valley.get(), number) == BAD) {
                fail(told + " answered BAD");
            }
        }
        refused(valley, call.replace("?", "" + (least - 1)), BAD, lots -> asked.of(lots, least - 1));
        refused(valley, call.replace("?", "" + (most + 1)), BAD, lots -> asked.of(lots, most + 1));
        for (int number : FAR_OFF) {
            refused(valley, call.replace("?", "" + number), BAD, lots -> asked.of(lots, number));
        }
    }

    static List<String> told(NightLots lots) {
        List<String> told = new ArrayList<>();
        int n = lots.count(0);
        for (int what = 0; what < 8; what++) {
            told.add("count(" + what + ") " + lots.count(what));
        }
        for (int h = 0; h < n; h++) {
            for (int what = 0; what < 6; what++) {
                told.add("house(" + h + ", " + what + ") " + lots.house(h, what));
            }
            told.add("hour(" + h + ", 0) " + lots.hour(h, 0));
            told.add("hour(" + h + ", 1) " + lots.hour(h, 1));
            for (int k = 0; k < n; k++) {
                told.add("heavy(" + h + ", " + k + ") " + lots.heavy(h, k));
                told.add("had(" + h + ", " + k + ") " + lots.had(h, k));
            }
            told.add("behind(1, " + h + ", 0) " + lots.behind(1, h, 0));
            told.add("behind(40, " + h + ", 1) " + lots.behind(40, h, 1));
            told.add("first(" + h + ") " + lots.first(h));
            told.add("even(" + h + ") " + lots.even(h));
            told.add("kinds(" + h + ") " + lots.kinds(h));
            told.add("strengths(" + h + ", 0) " + lots.strengths(h, 0));
            told.add("strengths(" + h + ", 1) " + lots.strengths(h, 1));
            told.add("likely(" + h + ", 5, 0) " + lots.likely(h, 5, 0));
        }
        told.add("gaps() " + lots.gaps());
        told.add("even(-1) " + lots.even(-1));
        told.add("swaps() " + lots.swaps());
        told.add("far(0) " + lots.far(0));
        told.add("far(1) " + lots.far(1));
        told.add("lamps(2, 1) " + lots.lamps(2, 1));
        told.add("winter(5, 9, 0) " + lots.winter(5, 9, 0));
        told.add("winter(5, 9, 1) " + lots.winter(5, 9, 1));
        told.add("fault() " + lots.fault());
        return told;
    }

    /** What acts change, in short: with seven houses, too, an object has no more than its 512 calls. */
    private static List<String> toldOfActs(NightLots lots) {
        List<String> told = new ArrayList<>();
        int n = lots.count(0);
        for (int what = 1; what < 4; what++) {
            told.add("count(" + what + ") " + lots.count(what));
        }
        for (int h = 0; h < n; h++) {
            for (int what = 3; what < 6; what++) {
                told.add("house(" + h + ", " + what + ") " + lots.house(h, what));
            }
            told.add("hour(" + h + ", 0) " + lots.hour(h, 0));
        }
        return told;
    }

    /** What is answered and told, the call being made until it is refused: what can be undone, what is kept aside. */
    private static List<String> stepByStep(NightLots lots, Call call) {
        List<String> told = new ArrayList<>();
        int answer = 0;
        for (int i = 0; i <= 8 && answer >= 0; i++) {
            answer = call.of(lots);
            told.add("step " + i + " " + answer);
            told.addAll(toldOfActs(lots));
        }
        return told;
    }
}
