import java.util.ArrayList;
import java.util.HashSet;
import java.util.List;
import java.util.Set;
import java.util.function.Supplier;

/** What the tests of boundaries share: one sentence of DOC.md that names a boundary is one test, told by its words. */
final class Boundary {
    static final int NONE = -1, BAD = -2, STATE = -3, FULL = -4, NOT_SO = -5;
    static final int NOTHING = -11, CAST = -12, PLACE = -13, SIZE = -14;
    static final long NO = Long.MIN_VALUE;
    static final int MIN = Integer.MIN_VALUE, MAX = Integer.MAX_VALUE;
    static final int BYTES = 0, SHORTS = 1, INTS = 2, LONGS = 3, BOOLEANS = 4;

    interface Calls {
        void run();
    }

    interface Call {
        long of(BellsThatEat x);
    }

    interface CallWith {
        long of(BellsThatEat x, int n);
    }

    private static final Set<String> names = new HashSet<>();
    private static String name = "";
    private static boolean holds;
    private static int failed;

    private Boundary() {
    }

    static void test(String words, Calls calls) {
        name = words;
        holds = names.add(words);
        if (!holds) {
            System.out.println(words + ": this test is there twice");
        }
        try {
            calls.run();
        } catch (RuntimeException | StackOverflowError e) {
            holds = false;
            System.out.println(words + ": " + e);
        }
        failed += holds ? 0 : 1;
    }

    static void due(String call, long want, long got) {
        if (want != got) {
            holds = false;
            System.out.println(name + ": " + call + " answered " + got + ", due is " + want);
        }
    }

    /** Ends the run as .ci/run asks for it. */
    static void end() {
        System.out.println(names.size() + " boundaries, " + failed + " of them not as due");
        if (failed != 0 || names.isEmpty()) {
            System.exit(1);
        }
    }

    // ---- objects to begin with

    static void write(BellsThatEat x, String text) {
        int before = x.count(6);
        for (int i = 0; i < text.length(); i++) {
            due("feed", before + i + 1, x.feed(text.charAt(i)));
        }
    }

    static int upland(BellsThatEat x, String text) {
        write(x, text);
        return x.upland();
    }

    /** BELLS, of each its KIND, v, FED, in an UPLAND ("": in none). */
    static BellsThatEat in(String text, int... kindVFed) {
        BellsThatEat x = new BellsThatEat();
        if (!text.isEmpty()) {
            due("upland() of '" + text + "'", 0, upland(x, text));
        }
        for (int i = 0; i + 2 < kindVFed.length; i += 3) {
            due("bell()", i / 3, x.bell(kindVFed[i], kindVFed[i + 1], kindVFed[i + 2]));
        }
        return x;
    }

    static BellsThatEat bells(int... kindVFed) {
        return in("", kindVFed);
    }

    static BellsThatEat sixBells() {
        return bells(0, 1, 50, 1, 2, 60, 2, 3, 80, 3, 4, 30, 4, 5, 40, 6, 6, 30);
    }

    static void stores(BellsThatEat x, int... ofEach) {
        for (int food = 0; food < ofEach.length; food++) {
            x.store(food, ofEach[food]);
        }
    }

    static void passTo(BellsThatEat x, int day) {
        int at = x.told(0);
        for (int i = 0; i < 200 && at < day; i++) {
            at = x.pass(Math.min(60, day - at));
        }
        due("DAY", day, at);
    }

    static void items(BellsThatEat x, int tape, int sort, long... items) {
        due("tape", 1, x.tape(tape, sort, items.length));
        for (int i = 0; i < items.length; i++) {
            due("item", 1, x.item(tape, i, items[i]));
        }
    }

    static void itemsAre(BellsThatEat x, int tape, long... want) {
        for (int i = 0; i < want.length; i++) {
            due("read " + i, want[i], x.read(tape, i));
        }
        due("behind its end", NO, x.read(tape, want.length));
    }

    /** Five BELLS, and something of all else. */
    static BellsThatEat rich() {
        BellsThatEat x = in("likes 4 f=2;tune 6;grow 2", 0, 6, 47, 1, 5, 70, 6, 3, 40, 5, 8, 72, 3, 7, 35);
        for (int part = 0; part < 4; part++) {
            x.row(2, part, 4 - part);
        }
        x.pass(2);
        x.eats(0, 1);
        x.image();
        x.fill(1, 62);
        x.eats(1, 3);
        x.peal(0);
        x.peal(3);
        x.see(0, 45, 1);
        x.feeding(1, 2);
        x.feeding(6, 0);
        x.book(0, 49);
        items(x, 0, BOOLEANS, 1, 0, 1);
        items(x, 1, INTS, 77, -8);
        x.tape(3, BOOLEANS, 0);
        x.act(2, 2, 9);
        x.feed('t');
        return x;
    }

    static BellsThatEat richWithSix() {
        BellsThatEat x = rich();
        x.bell(2, 9, 80);
        return x;
    }

    // ---- what changes nothing

    private static void look(BellsThatEat x, List<Long> seen) {
        for (int i = 0; i <= 4; i++) {
            seen.add((long) x.told(i));
        }
        for (int food = 0; food < 4; food++) {
            seen.add((long) x.told(10 + food));
        }
        for (int what = 0; what <= 7; what++) {
            seen.add((long) x.count(what));
        }
        for (int bell = 0; bell < 6; bell++) {
            for (int what = 0; what <= 2; what++) {
                seen.add((long) x.of(bell, what));
            }
        }
        for (int days = 1; days <= 4; days++) {
            seen.add((long) x.on(days, 12));
        }
        seen.add((long) x.good(0));
        seen.add((long) x.good(1));
        seen.add((long) x.can(0, 0));
        seen.add((long) x.gone(0));
        seen.add((long) x.gone(1));
        seen.add((long) x.looked());
        for (int tape = 0; tape < 6; tape++) {
            seen.add((long) x.judge(tape, 0));
            for (int i = 0; i < 4; i++) {
                seen.add(x.read(tape, i));
            }
        }
    }

    /** All that can be seen of an object, which is of no use behind that. */
    private static List<Long> all(BellsThatEat x) {
        List<Long> seen = new ArrayList<>();
        for (int i = 0; i < 13; i++) {
            seen.add((long) x.trace(i));
        }
        look(x, seen);
        for (char c : "une 3".toCharArray()) {
            seen.add((long) x.feed(c));
        }
        seen.add((long) x.upland());
        look(x, seen);
        seen.add((long) x.undo());
        look(x, seen);
        return seen;
    }

    /** A call that is answered so, and behind which all is as without it. */
    static void refused(Supplier<BellsThatEat> made, String call, long want, Call refusal) {
        BellsThatEat x = made.get();
        due(call, want, refusal.of(x));
        if (!all(x).equals(all(made.get()))) {
            holds = false;
            System.out.println(name + ": " + call + " changed something");
        }
    }

    static void refused(String call, long want, Call refusal) {
        refused(Boundary::rich, call, want, refusal);
    }

    static void refused(String call, long want, CallWith refusal, int... numbers) {
        for (int n : numbers) {
            refused(call + " with " + n, want, x -> refusal.of(x, n));
        }
    }

    /** What is asked changes nothing, whatever it answers. */
    static void asked(String call, Call asking) {
        BellsThatEat x = rich();
        long first = asking.of(x);
        due(call + ", asked again", first, asking.of(x));
        if (!all(x).equals(all(rich()))) {
            holds = false;
            System.out.println(name + ": " + call + " changed something");
        }
    }
}
