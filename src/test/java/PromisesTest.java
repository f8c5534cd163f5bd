/** Every promise of DOC.md: ordinary inputs, the edges that it names, wrong inputs. */
public final class PromisesTest {
    private static final long NO = BellsThatEat.NO;
    private static int wrong;
    private static int checks;
    private static String promise = "";

    private static void due(String call, long want, long got) {
        checks++;
        if (got != want) {
            wrong++;
            System.out.println(promise + ": " + call + " answered " + got + ", due is " + want);
        }
    }

    private static void write(BellsThatEat x, String text) {
        for (int i = 0; i < text.length(); i++) {
            x.feed(text.charAt(i));
        }
    }

    private static int upland(BellsThatEat x, String text) {
        write(x, text);
        return x.upland();
    }

    private static BellsThatEat withUpland(String text) {
        BellsThatEat x = new BellsThatEat();
        due("upland() of " + text, 0, upland(x, text));
        return x;
    }

    /** A new object with BELLS: of each its KIND, v, FED. */
    private static BellsThatEat withBells(int... kindVFed) {
        BellsThatEat x = new BellsThatEat();
        for (int i = 0; i + 2 < kindVFed.length; i += 3) {
            due("bell()", i / 3, x.bell(kindVFed[i], kindVFed[i + 1], kindVFed[i + 2]));
        }
        return x;
    }

    private static void newObject() {
        BellsThatEat x = new BellsThatEat();
        for (int what = 0; what <= 7; what++) {
            due("count(" + what + ")", 0, x.count(what));
        }
        for (int food = 0; food < 4; food++) {
            due("told(10 and " + food + ")", 5, x.told(10 + food));
        }
        due("told(0)", 0, x.told(0));
        due("told(1)", 0, x.told(1));
        due("told(2)", 9, x.told(2));
        due("told(3)", 0, x.told(3));
        due("undo()", -3, x.undo());
        due("NONE", -1, BellsThatEat.NONE);
        due("BAD", -2, BellsThatEat.BAD);
        due("STATE", -3, BellsThatEat.STATE);
        due("FULL", -4, BellsThatEat.FULL);
        due("NO", Long.MIN_VALUE, BellsThatEat.NO);
    }

    private static void bell() {
        BellsThatEat x = new BellsThatEat();
        due("kind 7", -1, x.bell(7, 0, 0));
        due("kind -1 and v -1", -1, x.bell(-1, -1, 0));
        due("v -1", -2, x.bell(0, -1, 0));
        due("v 10", -2, x.bell(0, 10, 0));
        due("fed -1", -2, x.bell(0, 0, -1));
        due("fed 100", -2, x.bell(0, 0, 100));
        due("count(0)", 0, x.count(0));
        for (int b = 0; b < 6; b++) {
            due("bell " + b, b, x.bell(b + 1, 9, 99));
        }
        due("a seventh", -4, x.bell(0, 0, 0));
        due("a seventh, kind 7", -1, x.bell(7, 0, 0));
        due("a seventh, fed 100", -2, x.bell(0, 0, 100));
        due("count(0)", 6, x.count(0));
        x = new BellsThatEat();
        x.image();
        x.bell(6, 0, 0);
        x.row(0, 2, 7);
        x.undo();
        x.bell(6, 0, 0);
        due("the ROW of a new one", 0, x.row(0, 2, 1));
    }

    private static void of() {
        int[][] want = {
            // kind, v: hunger, note, fills of 0 .. 3
            {0, 0, 2, 50, 5, 10, 15, 20}, {0, 8, 4, 50, 5, 10, 15, 20}, {0, 9, 5, 50, 5, 10, 15, 20},
            {1, 2, 4, 62, 5, 10, 15, 20}, {1, 9, 10, 69, 5, 10, 15, 20}, {2, 9, 1, 80, 5, 10, 15, 20},
            {3, 9, 4, 30, 2, 5, 7, 10}, {3, 0, 1, 30, 2, 5, 7, 10}, {4, 7, 8, 47, 4, 4, 4, 4},
            {5, 9, 0, 71, 0, 0, 0, 0}, {6, 3, 2, 33, 5, 8, 10, 13}, {6, 9, 4, 39, 11, 14, 16, 19},
        };
        for (int[] w : want) {
            BellsThatEat x = withBells(w[0], w[1], 40);
            String which = "KIND " + w[0] + ", v " + w[1] + ": ";
            due(which + "KIND", w[0], x.of(0, 0));
            due(which + "v", w[1], x.of(0, 1));
            due(which + "FED", 40, x.of(0, 2));
            due(which + "HUNGER", w[2], x.of(0, 3));
            due(which + "NOTE", w[3], x.of(0, 4));
            due(which + "OFF", Math.abs(40 - w[3]), x.of(0, 5));
            due(which + "IN TUNE", Math.abs(40 - w[3]) <= 9 ? 1 : 0, x.of(0, 6));
            for (int f = 0; f < 4; f++) {
                due(which + "FILLS of " + f, w[4 + f], x.of(0, 10 + f));
            }
        }
        BellsThatEat x = withBells(0, 0, 59, 0, 0, 60, 0, 0, 41, 0, 0, 40);
        due("9 above", 1, x.of(0, 6));
        due("10 above", 0, x.of(1, 6));
        due("9 below", 1, x.of(2, 6));
        due("10 below", 0, x.of(3, 6));
        for (int what : new int[] {-1, 7, 8, 9, 14, Integer.MIN_VALUE, Integer.MAX_VALUE}) {
            due("what " + what, -1, x.of(0, what));
        }
        for (int bell : new int[] {-1, 4, 6, Integer.MIN_VALUE, Integer.MAX_VALUE}) {
            due("bell " + bell, -1, x.of(bell, 0));
        }
        x = withBells(6, 3, 40);
        x.row(0, 0, 9);
        x.row(0, 1, 4);
        due("HUNGER with a ROW", 11, x.of(0, 3));
        x.pass(1);
        due("HUNGER with a ROW, a DAY later", 6, x.of(0, 3));
        x.pass(3);
        due("HUNGER with a ROW, four DAYS later", 11, x.of(0, 3));
    }

    private static void fill() {
        BellsThatEat x = withBells(0, 0, 50);
        due("fill", 50, x.fill(0, 99));
        due("fill", 99, x.fill(0, 0));
        due("100", -2, x.fill(0, 100));
        due("-1", -2, x.fill(0, -1));
        due("no bell, 100", -1, x.fill(1, 100));
        due("bell -1", -1, x.fill(-1, 3));
        due("FED", 0, x.of(0, 2));
    }

    private static void store() {
        BellsThatEat x = new BellsThatEat();
        due("store", 5, x.store(3, 99));
        due("store", 99, x.store(3, 0));
        due("100", -2, x.store(3, 100));
        due("-1", -2, x.store(3, -1));
        due("food 4, 100", -1, x.store(4, 100));
        due("food -1", -1, x.store(-1, 0));
        due("told(13)", 0, x.told(13));
        due("told(12)", 5, x.told(12));
    }

    private static void row() {
        BellsThatEat x = withBells(6, 0, 50, 3, 0, 50, 6, 0, 50);
        due("row", 0, x.row(0, 3, 9));
        due("row", 9, x.row(0, 3, 1));
        due("of another", 0, x.row(2, 3, 2));
        due("another part", 0, x.row(0, 2, 2));
        due("10", -2, x.row(0, 3, 10));
        due("-1", -2, x.row(0, 3, -1));
        due("part 4, 10", -1, x.row(0, 4, 10));
        due("part -1", -1, x.row(0, -1, 0));
        due("no bell", -1, x.row(3, 0, 10));
        due("bell -1", -1, x.row(-1, 0, 0));
        due("another KIND, 10", -2, x.row(1, 0, 10));
        due("another KIND", -3, x.row(1, 0, 1));
        due("row", 1, x.row(0, 3, 1));
    }

    private static void feed() {
        BellsThatEat x = new BellsThatEat();
        for (int i = 1; i <= 100; i++) {
            due("feed", i, x.feed(i == 1 ? 127 : 0));
        }
        due("a 101st", -4, x.feed(1));
        due("a 101st that is bad", -2, x.feed(128));
        due("-1", -2, x.feed(-1));
        due("count(6)", 100, x.count(6));
        due("upland()", -10, x.upland());
        due("count(6)", 0, x.count(6));
    }

    private static void faults() {
        Object[][] want = {
            {"", 0}, {"l", 1}, {"x", 0}, {"lx", 1}, {"xo", 0}, {"li", 2}, {"lo", 2}, {"lot 1", 2}, {"likes", 5},
            {"likes1", 5}, {"likes ", 6}, {"likes  1", 6}, {"likes 1", 7}, {"likes 12", 8}, {"likes 123", 8},
            {"likes 1;", 7}, {"likes 1 ", 8}, {"likes 1  b=1", 8}, {"likes 1 b", 9}, {"likes 1 bb", 9},
            {"likes 1 b=", 10}, {"likes 1 b==", 10}, {"likes 1 b=1 ", 11}, {"likes 1 b=123", 12},
            {"likes 1 b=1|", 12}, {"likes 1 b=1&", 12}, {"likes 1 b=1|&", 12}, {"likes 1 b=1)", 11},
            {"likes 1 (b=1", 12}, {"likes 1 (b=1))", 13}, {"likes 1 ()", 9}, {"likes 1 !", 9},
            {"likes 1 (!(!b=1))!", 17}, {"likes 1 !!!!!b=1", 12}, {"likes 1 !(!(!b=1", 12}, {"likes 1 !(!(b=1", 15}, {"likes 1 ((((!b=1", 12},
            {"likes 1 b=1;", 12}, {"likes 1 b=1;;", 12}, {"loathes 1 e=1", 10}, {"loathes 1 b-1", 11},
            {"tune", 4}, {"tune ", 5}, {"tune 1 ", 6}, {"tune 123", 7}, {"tune 9;", 7}, {"tune a", 5}, {"tume 1", 2},
            {"grow 1 b=1", 6}, {"grow 00;grow 000", 15}, {"grow,", 4}, {" tune 1", 0}, {"Tune 1", 0}, {";", 0},
            {"tune 1;tune 1;tune 1;tune 1;tune 1;tune 1;tune 1;tune 1;tune 1;tune 1;", 69},
            {"tune 1;tune 1;tune 1;tune 1;tune 1;tune 1;tune 1;tune 1;tune 1;tune 1;tune 1", 69},
            {"tune 1\n", 6}, {"tune :", 5}, {"tune /", 5}, {"tune 1:", 6}, {"likes 1 b=:", 10}, {"likes 1 b=1&!", 13}, {"likes 1 b<1|f>2&k=3|(v=1", 24},
        };
        for (Object[] w : want) {
            BellsThatEat x = new BellsThatEat();
            due("upland() of '" + w[0] + "'", -10 - (Integer) w[1], upland(x, (String) w[0]));
            due("count(1)", 0, x.count(1));
            due("count(6)", 0, x.count(6));
        }
        String full = "likes 1 ";
        while (full.length() < 98) {
            full += "!b=1&";
        }
        due("100 bytes, too short", -110, upland(new BellsThatEat(), (full + "!!!!").substring(0, 100)));
        due("100 bytes, whole", 0, upland(new BellsThatEat(), "tune 7;" + full.substring(0, 89) + "!b=1"));
    }

    private static void uplands() {
        BellsThatEat x = new BellsThatEat();
        due("FAULT", -10, x.upland());
        String[] texts = {"tune 1", "tune 2;grow 3;tune 4", "grow 99", "likes 9 b=0", "loathes 99 b=0", "tune 0"};
        int[] tunes = {1, 4, 9, 9, 9, 0};
        int[] grows = {0, 3, 99, 0, 0, 0};
        for (int i = 0; i < texts.length; i++) {
            due(texts[i], i, upland(x, texts[i]));
            due("TUNE of " + texts[i], tunes[i], x.told(2));
            due("GROW of " + texts[i], grows[i], x.told(3));
            due("count(1)", i + 1, x.count(1));
            due("count(6)", 0, x.count(6));
            if (i == 3) {
                due("a FAULT holds nothing", -16, upland(x, "tune 1?"));
                due("TUNE behind it", 9, x.told(2));
            }
        }
        BellsThatEat z = new BellsThatEat();
        z.bell(0, 0, 50);
        due("a FAULT at last", -32, upland(z, "tune 3;grow 5;likes 9 "));
        due("a FAULT behind a whole CLAUSE", -22, upland(z, "likes 9 b=0;x"));
        due("likes 0", 0, upland(z, "likes 0 b=0;likes 1 b=1"));
        due("nothing is left of it", 9, z.told(2));
        due("nothing is left of it", 0, z.told(3));
        due("nothing is left of it", 5, z.of(0, 10));
        write(x, "tune 77");
        due("a seventh", -4, x.upland());
        due("THE TEXT stays", 7, x.count(6));
        due("TUNE", 0, x.told(2));
        due("feed", 8, x.feed(59));
    }

    /** LIKING of BELL 1 (KIND 1, v 7, FED 58) and FOOD 1 on DAY 13, by one CLAUSE of 20. */
    private static void likes(String e, boolean holds) {
        BellsThatEat x = withUpland("likes 20 " + e);
        x.bell(2, 1, 10);
        x.bell(1, 7, 98);
        x.pass(13);
        x.fill(1, 58);
        due("likes 20 " + e, holds ? 30 : 10, x.of(1, 11));
        BellsThatEat y = withUpland("loathes 7 " + e);
        y.bell(2, 1, 10);
        y.bell(1, 7, 98);
        y.pass(13);
        y.fill(1, 58);
        due("loathes 7 " + e, holds ? 3 : 10, y.of(1, 11));
    }

    private static void likings() {
        String[] hold = {"b=1", "b<2", "b>0", "f=1", "f<2", "f>0", "k=1", "v=7", "v>6", "v<8", "h=5", "h=05", "d=3",
            "d<4", "d>2", "!b=2", "!!b=1", "!!!b=2", "!!!!b=1", "b=2|b=1", "b=1|b=2", "b=1&f=1", "b=2&b=2|f=1",
            "f=1|b=2&b=2", "(b=2|f=1)&k=1", "!(b=2|f=2)", "!b=2&!f=2", "(((b=1)))", "((((b=1))))", "!(!(b=1))",
            "b=2|b=3|b=4|b=1", "b=1&f=1&k=1&v=7&h=5&d=3", "b=2|(f=1&(k=2|!(v=8)))", "b<99", "!b=1|f=1"};
        String[] fail = {"b=2", "b<1", "b>1", "f=2", "f<1", "f>1", "k=2", "v=8", "h=58", "h=4", "h=6", "d=13", "d=4",
            "!b=1", "!!b=2", "!!!b=1", "b=2|b=3", "b=1&f=2", "b=2&f=1", "(b=2|f=1)&k=2", "b=2&(b=2|f=1)",
            "!(b=1|f=2)", "!b=1&f=2", "!(b=1)&!f=2", "b=1&f=1&k=1&v=7&h=5&d=4", "b=01&b=02", "b>99"};
        for (String e : hold) {
            likes(e, true);
        }
        for (String e : fail) {
            likes(e, false);
        }
        BellsThatEat x = withUpland("likes 99 b<9;loathes 98 b<9;likes 3 f=0;loathes 2 f=0;loathes 20 f=1;grow 1");
        x.bell(0, 0, 0);
        due("all together", 7, x.of(0, 10));
        due("0 at least", 0, x.of(0, 11));
        due("one more", 16, x.of(0, 12));
        x = withUpland("loathes 9 f=0;likes 7 f=0;likes 99 f=3;likes 99 f=3");
        x.bell(0, 0, 0);
        x.bell(3, 0, 0);
        x.bell(4, 0, 0);
        x.bell(5, 0, 0);
        x.bell(6, 9, 0);
        due("not cut between", 3, x.of(0, 10));
        due("beyond 99", 218, x.of(0, 13));
        due("SMALL", 109, x.of(1, 13));
        due("SMALL", 1, x.of(1, 10));
        due("CRACKED", 4, x.of(2, 13));
        due("CRACKED", 3, x.of(2, 10));
        due("PLAIN", 0, x.of(3, 13));
        due("TOLD", 118, x.of(4, 13));
        due("FED to 99", 99, x.eats(0, 3));
        x = withUpland("likes 1 b=0;likes 2 b=0;likes 4 b=0;likes 8 b=0;likes 16 b=0;likes 32 b=0;grow 5;tune 3;tune 4");
        x.bell(0, 0, 0);
        due("many CLAUSES", 68, x.of(0, 10));
        due("the last TUNE", 4, x.told(2));
    }

    private static void told() {
        BellsThatEat x = withBells(0, 0, 50, 0, 0, 70, 2, 0, 89);
        due("bits", 5, x.told(4));
        x.pass(60);
        due("DAY", 60, x.told(0));
        x.eats(0, 3);
        x.eats(0, 3);
        due("EATEN", 2, x.told(1));
        due("STORE", 3, x.told(13));
        for (int what : new int[] {-1, 5, 6, 9, 14, Integer.MIN_VALUE, Integer.MAX_VALUE}) {
            due("what " + what, -1, x.told(what));
        }
    }

    private static void eats() {
        BellsThatEat x = withBells(0, 0, 50, 5, 0, 50, 0, 0, 98);
        due("eats", 60, x.eats(0, 1));
        due("PLAIN eats", 50, x.eats(1, 1));
        due("99 at most", 99, x.eats(2, 1));
        x.eats(0, 1);
        due("the last", 80, x.eats(0, 1));
        due("none in STORE", -3, x.eats(0, 1));
        due("another", 85, x.eats(0, 0));
        due("EATEN", 6, x.told(1));
        due("STORE", 0, x.told(11));
        due("STORE", 4, x.told(10));
        due("food 4", -1, x.eats(0, 4));
        due("food -1", -1, x.eats(0, -1));
        due("no bell", -1, x.eats(3, 1));
        due("bell -1", -1, x.eats(-1, 0));
    }

    private static void pass() {
        BellsThatEat x = withUpland("grow 30;likes 5 d=1");
        x.bell(0, 9, 50);
        x.bell(5, 0, 50);
        x.bell(6, 0, 50);
        x.row(2, 0, 9);
        x.row(2, 2, 1);
        due("pass(0)", 0, x.pass(0));
        due("pass(1)", 1, x.pass(1));
        due("FED", 45, x.of(0, 2));
        due("FED of TOLD", 40, x.of(2, 2));
        due("STORE 0", 35, x.told(10));
        due("STORE 1", 5, x.told(11));
        due("pass(2)", 3, x.pass(2));
        due("FED", 35, x.of(0, 2));
        due("FED of PLAIN", 50, x.of(1, 2));
        due("FED of TOLD", 37, x.of(2, 2));
        due("pass(60)", 63, x.pass(60));
        due("FED, 0 at least", 0, x.of(0, 2));
        due("STORE, 99 at most", 99, x.told(13));
        due("61", -2, x.pass(61));
        due("-1", -2, x.pass(-1));
        for (int day = 123; day <= 9963; day += 60) {
            due("pass(60)", day, x.pass(60));
        }
        due("above 9999", -3, x.pass(37));
        due("above 9999, 61", -2, x.pass(61));
        due("just 9999", 9999, x.pass(36));
        due("pass(0)", 9999, x.pass(0));
        due("pass(1)", -3, x.pass(1));
        due("ON beyond", 0, x.on(60, 10));
        due("MEAN beyond", 50, x.mean(60, 0));
        x.feeding(6, 0);
        due("GONE beyond", 0, x.gone(0));
    }

    private static void strike() {
        BellsThatEat x = withBells(0, 0, 59, 0, 0, 60, 3, 0, 0);
        due("not good", 0, x.strike(1));
        due("good now", 1, x.strike(1));
        due("good", 1, x.strike(0));
        due("FED of all", 56, x.of(0, 2));
        due("FED of all", 57, x.of(1, 2));
        due("0 at least", 0, x.of(2, 2));
        due("no bell", -1, x.strike(3));
        due("bell -1", -1, x.strike(-1));
        due("NONE changes nothing", 56, x.of(0, 2));
    }

    private static void on() {
        BellsThatEat x = withBells(0, 0, 50, 0, 9, 70);
        due("bits now", 1, x.on(0, 0));
        due("bits", 3, x.on(3, 0));
        due("bits", 0, x.on(60, 0));
        due("FED", 44, x.on(3, 10));
        due("FED", 55, x.on(3, 11));
        due("no bell", -1, x.on(3, 12));
        due("STORE", 5, x.on(3, 23));
        due("food 4", -1, x.on(3, 24));
        for (int what : new int[] {-1, 1, 9, 16, 19, Integer.MIN_VALUE, Integer.MAX_VALUE}) {
            due("what " + what, -1, x.on(61, what));
        }
        due("61", -2, x.on(61, 0));
        due("-1", -2, x.on(-1, 0));
        due("61", -2, x.on(61, 11));
        due("nothing changed", 0, x.told(0));
        due("nothing changed", 50, x.of(0, 2));
        BellsThatEat y = withUpland("grow 7");
        due("GROW", 12, y.on(1, 20));
        due("GROW", 5, y.on(3, 23));
        due("GROW", 12, y.on(4, 23));
        due("GROW", 19, y.on(5, 20));
        due("GROW", 99, y.on(60, 20));
        due("nothing changed", 5, y.told(10));
    }

    private static void tuned() {
        BellsThatEat x = withBells(0, 0, 59, 0, 0, 60, 0, 0, 40, 5, 0, 80, 2, 0, 99, 2, 0, 89);
        due("STAYS", 10, x.tuned(0, 0));
        due("COMES", 0, x.tuned(0, 1));
        due("STAYS", 0, x.tuned(1, 0));
        due("COMES", 1, x.tuned(1, 1));
        due("STAYS", 0, x.tuned(2, 0));
        due("COMES not", -5, x.tuned(2, 1));
        due("STAYS ever", -5, x.tuned(3, 0));
        due("COMES", 10, x.tuned(4, 1));
        due("STAYS", 19, x.tuned(5, 0));
        due("what 2", -1, x.tuned(0, 2));
        due("what -1", -1, x.tuned(0, -1));
        due("no bell", -1, x.tuned(6, 0));
        due("bell -1", -1, x.tuned(-1, 0));
        BellsThatEat y = withUpland("tune 39");
        y.bell(2, 0, 99);
        y.bell(2, 0, 0);
        due("STAYS 59", 59, y.tuned(0, 0));
        BellsThatEat z = withUpland("tune 40");
        z.bell(2, 0, 99);
        due("STAYS 60", 60, z.tuned(0, 0));
        z = withUpland("tune 41");
        z.bell(2, 0, 99);
        due("STAYS beyond", -5, z.tuned(0, 0));
        z = withUpland("tune 0");
        z.bell(3, 0, 90);
        z.bell(3, 0, 91);
        due("COMES at 60", 60, z.tuned(0, 1));
        due("COMES beyond", -5, z.tuned(1, 1));
    }

    private static void all() {
        due("no BELLS", 0, new BellsThatEat().all());
        due("none ever", 0, withBells(0, 0, 20).all());
        due("two", 3, withBells(0, 0, 58, 0, 0, 64).all());
        due("never two", 0, withBells(0, 0, 50, 0, 0, 70).all());
        due("of several the fewest", 0, withBells(0, 0, 50).all());
        BellsThatEat x = withUpland("tune 0");
        x.bell(3, 0, 90);
        due("at 60", 60, x.all());
        BellsThatEat y = withUpland("tune 0");
        y.bell(3, 0, 91);
        due("beyond", 0, y.all());
    }

    private static void meal() {
        BellsThatEat x = withBells(0, 0, 50, 0, 0, 20, 0, 0, 0, 5, 0, 0, 0, 0, 40);
        due("so already", 0, x.meal(0, 0));
        due("so already", 0, x.meal(0, 4));
        // 21 .. 39 more by the fewest: two, of several with most of FOOD 0
        due("two", 2, x.meal(1, 0));
        due("of FOOD 0", 1, x.meal(1, 1));
        due("of FOOD 1", 0, x.meal(1, 2));
        due("of FOOD 2", 0, x.meal(1, 3));
        due("of FOOD 3", 1, x.meal(1, 4));
        due("three", 3, x.meal(2, 0));
        due("of FOOD 0", 1, x.meal(2, 1));
        due("of FOOD 1", 0, x.meal(2, 2));
        due("of FOOD 3", 2, x.meal(2, 4));
        due("none", -5, x.meal(3, 0));
        due("none", -5, x.meal(3, 1));
        due("one", 1, x.meal(4, 0));
        due("most of FOOD 0", 1, x.meal(4, 1));
        x.store(3, 0);
        due("out of STORE", 3, x.meal(2, 0));
        due("out of STORE", 3, x.meal(2, 3));
        x.store(2, 2);
        due("out of STORE", 4, x.meal(2, 0));
        // 2 of FOOD 2 are 30; 11 more by two: one of FOOD 0, one of FOOD 1
        due("out of STORE", 1, x.meal(2, 1));
        due("out of STORE", 1, x.meal(2, 2));
        due("out of STORE", 2, x.meal(2, 3));
        due("what 5", -1, x.meal(0, 5));
        due("what -1", -1, x.meal(3, -1));
        due("no bell", -1, x.meal(5, 0));
        due("bell -1", -1, x.meal(-1, 0));
        due("nothing changed", 5, x.told(10));
        due("nothing changed", 0, x.of(2, 2));
        BellsThatEat y = withUpland("likes 94 f=0;tune 0");
        y.bell(2, 0, 10);
        due("of several with none of FOOD 0", 4, y.meal(0, 0));
        due("of these with most of FOOD 1", 1, y.meal(0, 2));
        due("none of FOOD 2", 0, y.meal(0, 3));
        due("and the rest", 3, y.meal(0, 4));
        BellsThatEat z = withUpland("tune 0;likes 26 f=1&h=1");
        z.bell(0, 0, 9);
        // FOOD 0: 14, by which FOOD 1 fills 36
        due("LIKING by what it is FED then", 2, z.meal(0, 0));
        due("of FOOD 0", 1, z.meal(0, 1));
        due("of FOOD 1", 1, z.meal(0, 2));
    }

    private static void came() {
        BellsThatEat x = withBells(0, 0, 50, 5, 0, 20, 0, 0, 98);
        due("the empty MEAL", 1, x.came(0, 50));
        due("5 more", 1, x.came(0, 55));
        due("10 more", 2, x.came(0, 60));
        due("15 more", 3, x.came(0, 65));
        due("20 more", 5, x.came(0, 70));
        due("1 more", 0, x.came(0, 51));
        due("PLAIN", 70, x.came(1, 20));
        due("PLAIN", 0, x.came(1, 21));
        due("99 at most", 69, x.came(2, 99));
        for (int f = 0; f < 4; f++) {
            x.store(f, f == 1 ? 2 : 0);
        }
        due("out of STORE", 3, x.came(1, 20));
        due("out of STORE", 1, x.came(0, 70));
        due("out of STORE", 0, x.came(0, 80));
        due("100", -2, x.came(0, 100));
        due("-1", -2, x.came(0, -1));
        due("no bell, 100", -1, x.came(3, 100));
        due("bell -1", -1, x.came(-1, 0));
        BellsThatEat y = withUpland("likes 40 f=1&h=1");
        y.bell(0, 0, 9);
        // one of FOOD 0: 14, then FOOD 1: 50 more
        y.store(2, 0);
        y.store(3, 0);
        due("FOOD 0 goes first", 1, y.came(0, 64));
    }

    private static void dear() {
        BellsThatEat x = withBells(0, 0, 50, 4, 0, 50, 5, 0, 50);
        x.store(3, 0);
        due("FOOD 3", 3, x.dear(0));
        due("of several the first", 0, x.dear(1));
        due("of nothing the first", 0, x.dear(2));
        due("no bell", -1, x.dear(3));
        due("bell -1", -1, x.dear(-1));
        BellsThatEat y = withUpland("likes 12 f=1&h=3");
        y.bell(0, 0, 39);
        due("now", 1, y.dear(0));
        y.fill(0, 40);
        due("no more", 3, y.dear(0));
    }

    private static void ring() {
        BellsThatEat x = new BellsThatEat();
        due("no BELLS", 0, x.ring(-1));
        due("no BELLS", -5, x.ring(5));
        due("k 6", -1, x.ring(6));
        due("k -2", -1, x.ring(-2));
        x = withBells(0, 0, 59, 0, 0, 41, 0, 0, 60);
        // BELL 1 is good only as the first, BELL 2 only behind one
        due("how many", 3, x.ring(-1));
        due("0", 1, x.ring(0));
        due("1", 0, x.ring(1));
        due("2", 2, x.ring(2));
        due("3", -5, x.ring(3));
        due("nothing changed", 41, x.of(1, 2));
        x = withBells(0, 0, 0, 0, 0, 62, 0, 0, 61);
        due("how many", 1, x.ring(-1));
        due("the first row", 0, x.ring(0));
        due("the first row", 1, x.ring(1));
        due("the first row", 2, x.ring(2));
        BellsThatEat y = withUpland("tune 30");
        for (int b = 0; b < 6; b++) {
            y.bell(3, 0, 65 - b);
        }
        due("six", 6, y.ring(-1));
        BellsThatEat w = withUpland("tune 29");
        w.bell(3, 0, 1);
        w.bell(3, 0, 1);
        due("FED is 0 behind the first", 1, w.ring(-1));
        int[] order = {5, 4, 3, 2, 1, 0};
        BellsThatEat z = withUpland("tune 0");
        for (int b = 0; b < 6; b++) {
            z.bell(0, 0, 50 + 5 - b);
        }
        due("six", 6, z.ring(-1));
        for (int k = 0; k < 6; k++) {
            due("ring(" + k + ")", order[k], z.ring(k));
        }
    }

    private static void peal() {
        BellsThatEat x = withBells(0, 0, 59, 0, 0, 60);
        due("good of none", 0, x.good(0));
        due("fails of none", -5, x.good(1));
        due("peal", 1, x.peal(0));
        due("peal", 2, x.peal(0));
        due("all good", 2, x.good(0));
        due("none fails", -5, x.good(1));
        due("empty", 0, x.peal(-1));
        due("count(2)", 0, x.count(2));
        due("no bell", -1, x.peal(2));
        due("bell -2", -1, x.peal(-2));
        x.peal(0);
        x.fill(1, 63);
        x.peal(1);
        x.peal(1);
        x.peal(1);
        due("good", 1, x.good(0));
        due("fails", 1, x.good(1));
        for (int i = 5; i <= 10; i++) {
            due("peal", i, x.peal(1));
        }
        due("an eleventh", -4, x.peal(1));
        due("an eleventh, no bell", -1, x.peal(2));
        due("count(2)", 10, x.count(2));
        due("good", 7, x.good(0));
        due("what 2", -1, x.good(2));
        due("what -1", -1, x.good(-1));
        due("nothing changed", 63, x.of(1, 2));
        due("empty when full", 0, x.peal(-1));
    }

    private static void towers() {
        due("no BELLS", -5, new BellsThatEat().towers());
        due("one", 1, withBells(0, 9, 0).towers());
        due("two", 1, withBells(0, 9, 0, 0, 9, 0).towers());
        due("nothing to weigh", 1, withBells(0, 0, 0, 0, 0, 0, 0, 0, 0).towers());
        due("with 2", 5, withBells(0, 3, 0, 0, 9, 0, 0, 5, 0).towers());
        due("with two more", 13, withBells(0, 1, 0, 0, 9, 0, 0, 4, 0, 0, 4, 0).towers());
        due("least as bits", 3, withBells(0, 1, 0, 0, 2, 0, 0, 2, 0, 0, 1, 0).towers());
        due("v by which it is heavier", 1, withBells(0, 9, 0, 0, 1, 0, 0, 1, 0).towers());
    }

    private static void see() {
        BellsThatEat x = withBells(0, 4, 60, 3, 0, 60);
        due("CAN of nothing seen", 10, x.can(0, 0));
        due("the least", 0, x.can(0, 1));
        due("see", 1, x.see(0, 51, 3));
        due("CAN", 3, x.can(0, 0));
        due("the least", 3, x.can(0, 1));
        due("CAN of another", 10, x.can(1, 0));
        due("see the other", 2, x.see(1, 60, 0));
        due("CAN", 3, x.can(0, 0));
        due("see the other", 3, x.see(1, 57, 1));
        due("CAN, all of SEEN is so by no v", 0, x.can(0, 0));
        due("the least of none", -5, x.can(0, 1));
        due("CAN of the other", 3, x.can(1, 0));
        due("the least of the other", 6, x.can(1, 1));
        due("see(-1)", 0, x.see(-1, -7, 99));
        due("count(3)", 0, x.count(3));
        due("fed 100", -2, x.see(0, 100, 0));
        due("fed -1", -2, x.see(0, -1, 0));
        due("n 31", -2, x.see(0, 0, 31));
        due("n -1", -2, x.see(0, 0, -1));
        due("no bell, n 31", -1, x.see(2, 0, 31));
        due("bell -2", -1, x.see(-2, 0, 0));
        for (int i = 1; i <= 5; i++) {
            due("see", i, x.see(0, 0, 30));
        }
        due("a sixth", -4, x.see(0, 0, 30));
        due("a sixth, n 31", -2, x.see(0, 0, 31));
        due("count(3)", 5, x.count(3));
        due("CAN", 10, x.can(0, 0));
        x.fill(0, 61);
        due("CAN", 7, x.can(0, 0));
        due("the least", 3, x.can(0, 1));
        x.pass(1);
        due("from now on", 10, x.can(0, 0));
        due("what 2", -1, x.can(0, 2));
        due("what -1", -1, x.can(0, -1));
        due("no bell", -1, x.can(2, 0));
        due("bell -1", -1, x.can(-1, 0));
        due("its v stays", 4, x.of(0, 1));
        BellsThatEat y = withBells(6, 9, 80);
        y.row(0, 1, 5);
        y.see(0, 68, 5);
        due("CAN with a ROW", 0, y.can(0, 0));
        y.row(0, 1, 0);
        y.row(0, 0, 1);
        due("CAN with a ROW", 3, y.can(0, 0));
        due("the least", 3, y.can(0, 1));
    }

    private static void odds() {
        BellsThatEat x = withBells(0, 0, 30, 0, 0, 50, 5, 0, 0, 4, 0, 30);
        // FOODS 2 and 3 of 5 each
        due("above", 1, x.odds(0, 0));
        due("below", 2, x.odds(0, 1));
        x.store(2, 1);
        x.store(1, 8);
        // 1 and 5 of 5, 8, 1, 5
        due("above", 6, x.odds(0, 0));
        due("below", 19, x.odds(0, 1));
        due("none: above", 0, x.odds(2, 0));
        due("none: below", 1, x.odds(2, 1));
        due("all: above", 1, x.odds(3, 0));
        due("part 2", NO, x.odds(0, 2));
        due("part -1", NO, x.odds(0, -1));
        due("no bell", NO, x.odds(4, 0));
        due("bell -1", NO, x.odds(-1, 0));
        for (int f = 0; f < 4; f++) {
            x.store(f, 0);
        }
        due("STORE is empty", NO, x.odds(0, 0));
        x.store(2, 7);
        due("surely", 1, x.odds(0, 0));
        due("surely", 1, x.odds(0, 1));
        due("nothing changed", 7, x.told(12));
        x.fill(0, 30);
        x.store(0, 2);
        x.store(2, 2);
        due("2 of 4: above", 1, x.odds(0, 0));
        due("2 of 4: below", 2, x.odds(0, 1));
    }

    private static void mean() {
        BellsThatEat x = withBells(0, 0, 50, 0, 0, 52, 2, 0, 99);
        due("above", 67, x.mean(0, 0));
        due("below", 1, x.mean(0, 1));
        due("above", 196, x.mean(1, 0));
        due("below", 3, x.mean(1, 1));
        due("above", 13, x.mean(60, 0));
        due("61", NO, x.mean(61, 0));
        due("-1", NO, x.mean(-1, 0));
        due("part 2", NO, x.mean(0, 2));
        due("part -1", NO, x.mean(0, -1));
        due("no BELLS", NO, new BellsThatEat().mean(0, 0));
        BellsThatEat y = withBells(0, 0, 0);
        due("nothing: above", 0, y.mean(0, 0));
        due("nothing: below", 1, y.mean(0, 1));
        due("nothing changed", 0, x.told(0));
    }

    private static void feeding() {
        BellsThatEat x = withBells(0, 0, 30, 0, 0, 50);
        due("GONE of nothing", 0, x.gone(0));
        due("those IN TUNE", 2, x.gone(1));
        x.fill(1, 41);
        due("no DAY goes", 2, x.gone(1));
        x.fill(1, 50);
        due("feeding", 1, x.feeding(0, 2));
        due("EATEN", 1, x.gone(0));
        due("those IN TUNE", 3, x.gone(1));
        for (int i = 2; i <= 6; i++) {
            due("feeding", i, x.feeding(6, i * 1000));
        }
        due("those IN TUNE behind five DAYS", 0, x.gone(1));
        due("feeding", 7, x.feeding(1, 0));
        due("those IN TUNE", 2, x.gone(1));
        due("EATEN", 2, x.gone(0));
        x.store(2, 0);
        due("passed over", 1, x.gone(0));
        due("feeding", 8, x.feeding(0, 3));
        due("feeding", 9, x.feeding(6, -9));
        due("feeding", 10, x.feeding(0, 3));
        due("an eleventh", -4, x.feeding(0, 3));
        due("an eleventh, a DAY", -4, x.feeding(6, 0));
        due("an eleventh, food 4", -1, x.feeding(0, 4));
        due("food -1", -1, x.feeding(0, -1));
        due("no bell", -1, x.feeding(2, 0));
        due("bell 7", -1, x.feeding(7, 0));
        due("bell -2", -1, x.feeding(-2, 0));
        due("EATEN", 3, x.gone(0));
        x.store(3, 1);
        due("only one in STORE", 2, x.gone(0));
        due("what 2", -1, x.gone(2));
        due("what -1", -1, x.gone(-1));
        due("count(4)", 10, x.count(4));
        due("nothing changed", 0, x.told(1));
        due("feeding(-1)", 0, x.feeding(-1, 77));
        due("count(4)", 0, x.count(4));
        BellsThatEat y = withUpland("grow 1");
        y.bell(0, 0, 30);
        y.store(0, 0);
        y.feeding(0, 0);
        y.feeding(6, 0);
        y.feeding(0, 0);
        y.feeding(0, 0);
        due("what grew", 1, y.gone(0));
        y.eats(0, 3);
        due("EATEN in it, not ahead of it", 1, y.gone(0));
    }

    private static void book() {
        BellsThatEat x = withBells(0, 0, 30, 0, 0, 50);
        due("LOOKED of nothing", -5, x.looked());
        due("book", 1, x.book(0, 30));
        due("book", 2, x.book(1, 50));
        due("LOOKED", -5, x.looked());
        due("book", 3, x.book(1, 51));
        due("LOOKED", 2, x.looked());
        x.fill(1, 51);
        due("LOOKED", 1, x.looked());
        x.fill(0, 31);
        due("LOOKED", 0, x.looked());
        due("fed 100", -2, x.book(0, 100));
        due("fed -1", -2, x.book(0, -1));
        due("no bell, fed 100", -1, x.book(2, 100));
        due("bell -2", -1, x.book(-2, 0));
        for (int i = 4; i <= 8; i++) {
            due("book", i, x.book(0, 99));
        }
        due("a ninth", -4, x.book(0, 99));
        due("a ninth, fed 100", -2, x.book(0, 100));
        due("count(5)", 8, x.count(5));
        due("book(-1)", 0, x.book(-1, 100));
        due("count(5)", 0, x.count(5));
        due("LOOKED", -5, x.looked());
    }

    private static void judge() {
        BellsThatEat x = new BellsThatEat();
        due("no BELLS", -5, x.judge(0, -1));
        x.tape(1, 2, 3);
        due("no BELLS, ints", -12, x.judge(1, 0));
        due("tape 6", -1, x.judge(6, 0));
        due("tape -1", -1, x.judge(-1, 0));
        x.bell(0, 0, 50);
        x.bell(0, 0, 0);
        x.bell(0, 0, 55);
        due("holds nothing", 100, x.judge(0, 0));
        x.tape(0, 4, 5);
        due("the first is otherwise", 0, x.judge(0, 0));
        x.item(0, 1, 8);
        x.item(0, 3, -1);
        due("as told", -5, x.judge(0, 1));
        due("place -1", 100, x.judge(0, -1));
        due("the row ends", 102, x.judge(0, 3));
        due("the first is otherwise", 0, x.judge(0, 4));
        due("beyond the end", 100, x.judge(0, 5));
        due("far beyond", 100, x.judge(0, Integer.MAX_VALUE));
        due("far below", 100, x.judge(0, Integer.MIN_VALUE));
        x.item(0, 2, 1);
        due("the second is otherwise", 1, x.judge(0, 1));
        x.item(0, 2, 0);
        x.item(0, 3, 0);
        due("the third is otherwise", 2, x.judge(0, 1));
        for (int sort = 0; sort < 4; sort++) {
            x.tape(2, sort, 9);
            due("sort " + sort, -12, x.judge(2, 0));
        }
        x.tape(3, 4, 0);
        due("no items", 100, x.judge(3, 0));
    }

    private static void image() {
        BellsThatEat x = new BellsThatEat();
        due("no image", -3, x.undo());
        due("image", 0, x.image());
        x.bell(6, 1, 40);
        x.bell(0, 2, 50);
        x.row(0, 0, 3);
        x.store(1, 9);
        x.pass(2);
        x.eats(0, 1);
        upland(x, "tune 3");
        x.peal(0);
        x.see(1, 40, 3);
        due("CAN", 3, x.can(1, 0));
        x.feeding(0, 2);
        x.book(1, 46);
        due("image", 2, x.image());
        int fed = x.of(0, 2);
        x.bell(1, 1, 1);
        x.fill(0, 99);
        x.row(0, 0, 7);
        x.store(1, 77);
        x.pass(5);
        x.eats(0, 1);
        upland(x, "tune 5;grow 5");
        x.peal(1);
        x.see(1, 9, 3);
        x.feeding(6, 2);
        x.book(1, 9);
        x.tape(0, 3, 4);
        x.act(0, 2, 5);
        int ran = x.count(7);
        x.feed(65);
        due("undo", 2, x.undo());
        due("FED", fed, x.of(0, 2));
        due("ROW", 3, x.row(0, 0, 3));
        due("STORE", 8, x.told(11));
        due("DAY", 2, x.told(0));
        due("EATEN", 1, x.told(1));
        due("which UPLAND holds", 3, x.told(2));
        due("GROW", 0, x.told(3));
        int[] counts = {2, 2, 1, 1, 1, 1, 1, ran};
        for (int what = 0; what < counts.length; what++) {
            due("count(" + what + ")", counts[what], x.count(what));
        }
        due("the TAPE stays", 0, x.read(0, 3));
        x.peal(-1);
        x.see(-1, 0, 0);
        x.feeding(-1, 0);
        x.book(-1, 0);
        due("undo again", 2, x.undo());
        for (int what = 2; what <= 5; what++) {
            due("count(" + what + ")", 1, x.count(what));
        }
        due("the BOOK", -5, x.looked());
        x.upland();
        due("a new UPLAND", 2, upland(x, "tune 8"));
        x.peal(-1);
        x.see(-1, 0, 0);
        x.feeding(-1, 0);
        x.book(-1, 0);
        x.undo();
        int[] asked = {x.good(0), x.can(1, 0), x.can(1, 1), x.gone(0), x.gone(1), x.looked()};
        x.peal(-1);
        x.peal(1);
        x.see(-1, 0, 0);
        x.see(0, 33, 8);
        x.feeding(-1, 0);
        x.feeding(1, 3);
        x.book(-1, 0);
        x.book(0, 9);
        x.undo();
        int[] then = {x.good(0), x.can(1, 0), x.can(1, 1), x.gone(0), x.gone(1), x.looked()};
        for (int i = 0; i < asked.length; i++) {
            due("what was told by hand, " + i, asked[i], then[i]);
        }
        upland(x, "tune 8");
        due("TUNE", 8, x.told(2));
        due("undo again", 2, x.undo());
        due("TUNE", 3, x.told(2));
    }

    private static void acted(int kind, int v, int act, int x, int want, int... trace) {
        BellsThatEat bells = withBells(0, 0, 0, 0, 0, 0, kind, v, 0);
        String call = "KIND " + kind + ": act(2, " + act + ", " + x + ")";
        due(call, want, bells.act(2, act, x));
        due(call + " bodies", trace.length, bells.count(7));
        for (int i = 0; i < trace.length; i++) {
            due(call + " body " + i, trace[i], bells.trace(i));
        }
        due(call + " no more", -1, bells.trace(trace.length));
        due(call + " trace(-1)", -1, bells.trace(-1));
    }

    private static void acts() {
        // i is 2
        acted(0, 5, 0, 7, 9, 10);
        acted(0, 5, 1, 7, 4, 11, 10);
        acted(0, 5, 2, 7, 8, 12, 11, 10);
        acted(1, 5, 0, 7, 9, 10);
        acted(1, 5, 1, 7, 4 ^ 6, 20, 11, 10);
        acted(1, 5, 2, 7, (4 ^ 6) * 2, 12, 20, 11, 10);
        acted(2, 5, 0, 7, 23, 30, 10);
        acted(2, 5, 1, 7, 18, 11, 30, 10);
        acted(2, 5, 2, 7, 36, 12, 11, 30, 10);
        acted(3, 5, 0, 7, 9, 10);
        acted(3, 5, 1, 7, 4, 11, 10);
        acted(3, 5, 2, 7, 8 - 2, 40, 12, 11, 10, 11, 10);
        acted(4, 5, 0, 7, -9, 50, 10);
        acted(4, 5, 1, 7, (-10 - 5) ^ 6, 51, 20, 11, 50, 10);
        acted(4, 5, 2, 7, ((-10 - 5) ^ 6) * 2, 12, 51, 20, 11, 50, 10);
        acted(5, 5, 0, 7, 23, 30, 10);
        acted(5, 5, 1, 7, 18, 11, 30, 10);
        acted(5, 5, 2, 7, ((7 - 2) * 3 + 2 - 5) * 2, 60, 12, 11, 30, 10);
        acted(6, 5, 0, 7, 9 ^ 5, 71, 10);
        acted(6, 5, 1, 7, (9 ^ 5) - 5 + 4, 70, 11, 71, 10, 10);
        acted(6, 5, 2, 7, ((9 ^ 5) - 5 + 4) * 2 + (3 ^ 5) - 5 + 4, 40, 12, 70, 11, 71, 10, 10, 70, 11, 71, 10, 10);
        acted(0, 0, 0, Integer.MAX_VALUE, Integer.MIN_VALUE + 1, 10);
        acted(2, 0, 0, Integer.MAX_VALUE, Integer.MAX_VALUE * 3 + 2, 30, 10);
        acted(4, 0, 0, Integer.MIN_VALUE - 2, Integer.MIN_VALUE, 50, 10);
        BellsThatEat x = withBells(6, 1, 0);
        x.act(0, 2, 1);
        due("bodies", 12, x.count(7));
        due("no such BELL", 0, x.act(1, 0, 3));
        due("no TRACE", 0, x.count(7));
        due("no TRACE", -1, x.trace(0));
        x.act(0, 0, 1);
        due("no such act", 0, x.act(0, 3, 3));
        due("no TRACE", -1, x.trace(0));
        x.act(0, 0, 1);
        due("act -1", 0, x.act(0, -1, 3));
        due("no TRACE", 0, x.count(7));
        due("bell -1", 0, x.act(-1, 0, 3));
    }

    private static void taken() {
        int[][] above = {{0}, {1, 0}, {2, 0}, {3, 0}, {4, 1, 0}, {5, 2, 0}, {6, 3, 0}};
        for (int kind = 0; kind <= 6; kind++) {
            BellsThatEat x = withBells(kind, 0, 0);
            for (int k = 0; k <= 6; k++) {
                boolean is = false;
                for (int a : above[kind]) {
                    is |= a == k;
                }
                due("KIND " + kind + " taken for " + k, is ? kind : -12, x.taken(0, k));
            }
            due("k 7", -2, x.taken(0, 7));
            due("k -1, no bell", -2, x.taken(1, -1));
            due("no bell", -11, x.taken(1, 0));
            due("bell -1", -11, x.taken(-1, 6));
        }
    }

    /** With as many BELLS as there can be, and the ROWS of the last. */
    private static void sixBells() {
        BellsThatEat x = withBells(0, 9, 50, 0, 8, 50, 2, 7, 80, 3, 6, 30, 5, 5, 75, 6, 4, 34);
        for (int part = 0; part < 4; part++) {
            x.row(5, part, part + 1);
        }
        due("told(4)", 63, x.told(4));
        due("on(0, 0)", 63, x.on(0, 0));
        due("ON of the last", 34 - 3 - 4 - 5, x.on(3, 15));
        due("mean", 319, x.mean(0, 0));
        due("mean", 6, x.mean(0, 1));
        due("all", 0, x.all());
        due("ring", 6, x.ring(-1));
        due("ring", 5, x.ring(5));
        due("towers", 25, x.towers());
        x.tape(0, 4, 6);
        for (int i = 0; i < 6; i++) {
            x.item(0, i, 1);
        }
        due("judge", -5, x.judge(0, 0));
        due("judge", 105, x.judge(0, 1));
        due("image", 6, x.image());
        x.row(5, 3, 0);
        due("undo", 6, x.undo());
        due("ROW of the last", 4, x.row(5, 3, 4));
        due("strike", 1, x.strike(5));
        due("FED", 33, x.of(5, 2));
        due("peal", 1, x.peal(5));
        due("good", 1, x.good(0));
    }

    private static void counts() {
        BellsThatEat x = new BellsThatEat();
        for (int what : new int[] {-1, 8, Integer.MIN_VALUE, Integer.MAX_VALUE}) {
            due("what " + what, -2, x.count(what));
        }
    }

    private static void tapes() {
        BellsThatEat x = new BellsThatEat();
        due("tape 6, sort 9", -1, x.tape(6, 9, -1));
        due("tape -1", -1, x.tape(-1, 0, 1));
        due("sort 5, n -1", -2, x.tape(0, 5, -1));
        due("sort -2", -2, x.tape(0, -2, 1));
        due("n 61", -2, x.tape(0, 0, 61));
        due("n -1", -14, x.tape(0, 0, -1));
        due("holds nothing", NO, x.read(0, 0));
        due("item of nothing", -11, x.item(0, 0, 1));
        due("n 60", 1, x.tape(0, 3, 60));
        due("read", 0, x.read(0, 59));
        due("item", 1, x.item(0, 59, Long.MAX_VALUE));
        due("read", Long.MAX_VALUE, x.read(0, 59));
        due("place 60", NO, x.read(0, 60));
        due("place -1", NO, x.read(0, -1));
        due("item 60", -13, x.item(0, 60, 1));
        due("item -1", -13, x.item(0, -1, 1));
        due("tape 6", NO, x.read(6, 0));
        due("tape -1", NO, x.read(-1, 0));
        due("tape 6", -1, x.item(6, 0, 1));
        due("tape -1", -1, x.item(-1, 0, 1));
        due("SIZE changes nothing", -14, x.tape(0, 1, -1));
        due("read", Long.MAX_VALUE, x.read(0, 59));
        due("becomes all 0", 1, x.tape(0, 3, 60));
        due("read", 0, x.read(0, 59));
        due("becomes nothing", 1, x.tape(0, -1, -7));
        due("read", NO, x.read(0, 0));
        due("n 0", 1, x.tape(0, 0, 0));
        due("place 0", -13, x.item(0, 0, 1));
        long[] v = {0x8000000180018081L, 255, 65535, 1L << 31, 1L << 40, 0, -1};
        for (long n : v) {
            long[] want = {(byte) n, (short) n, (int) n, n, n != 0 ? 1 : 0};
            for (int sort = 0; sort <= 4; sort++) {
                x.tape(5, sort, 1);
                due("item", 1, x.item(5, 0, n));
                due("sort " + sort + " of " + n, want[sort], x.read(5, 0));
            }
        }
    }

    private static void shift() {
        BellsThatEat x = new BellsThatEat();
        x.tape(0, 1, 6);
        x.tape(1, 1, 4);
        x.tape(2, 0, 4);
        for (int i = 0; i < 6; i++) {
            x.item(0, i, i + 1);
        }
        due("shift", 4, x.shift(0, 0, 0, 2, 4));
        int[] up = {1, 2, 1, 2, 3, 4};
        for (int i = 0; i < 6; i++) {
            due("shifted up " + i, up[i], x.read(0, i));
        }
        due("shift", 5, x.shift(0, 1, 0, 0, 5));
        int[] down = {2, 1, 2, 3, 4, 4};
        for (int i = 0; i < 6; i++) {
            due("shifted down " + i, down[i], x.read(0, i));
        }
        due("to another", 2, x.shift(0, 3, 1, 2, 2));
        due("there", 3, x.read(1, 2));
        due("there", 4, x.read(1, 3));
        due("there", 0, x.read(1, 1));
        due("none from the end", 0, x.shift(0, 6, 1, 4, 0));
        int[][] places = {{7, 0, 0}, {0, 5, 0}, {-1, 0, 1}, {0, -1, 1}, {0, 0, -1}, {3, 0, 4}, {0, 1, 4}, {0, 0, 5},
            {Integer.MAX_VALUE, 0, 1}, {0, Integer.MAX_VALUE, 1}, {1, 1, Integer.MAX_VALUE},
            {Integer.MIN_VALUE, 0, Integer.MIN_VALUE}, {6, 0, 1}, {0, 4, 1}};
        for (int[] p : places) {
            due("PLACE " + p[0] + " " + p[1] + " " + p[2], -13, x.shift(0, p[0], 1, p[1], p[2]));
        }
        due("unlike sorts, ahead of PLACE", -12, x.shift(0, -1, 2, 0, 1));
        due("NOTHING there", -11, x.shift(0, 0, 3, 0, 1));
        due("NOTHING here", -11, x.shift(3, 0, 0, 0, 1));
        due("tape 6, ahead of NOTHING", -1, x.shift(3, 0, 6, 0, 1));
        due("tape -1", -1, x.shift(-1, 0, 0, 0, 1));
        due("other -1", -1, x.shift(0, 0, -1, 0, 1));
        due("tape 6", -1, x.shift(6, 0, 0, 0, 1));
    }

    private static void part(String name) {
        promise = name;
    }

    public static void main(String[] args) {
        part("1"); newObject();
        part("2"); bell();
        part("3"); of();
        part("4"); fill();
        part("5"); store();
        part("6"); row();
        part("7"); feed();
        part("8"); faults(); uplands(); likings();
        part("9"); told();
        part("10"); eats();
        part("11"); pass();
        part("12"); strike();
        part("13"); on();
        part("14"); tuned();
        part("15"); all();
        part("16"); meal();
        part("17"); came();
        part("18"); dear();
        part("19"); ring();
        part("20, 21"); peal();
        part("22"); towers();
        part("23, 24"); see();
        part("25"); odds();
        part("26"); mean();
        part("27, 28"); feeding();
        part("29, 30"); book();
        part("31"); judge();
        part("32, 33"); image();
        part("34, 35"); acts();
        part("36"); taken();
        part("six BELLS"); sixBells();
        part("37"); counts();
        part("38 .. 40"); tapes();
        part("41"); shift();
        System.out.println(checks + " answers looked at, " + wrong + " not as due");
        if (wrong != 0) {
            System.exit(1);
        }
    }
}
