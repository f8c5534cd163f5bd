/** The boundaries that promises 1 to 12 name: bells, foods, uplands, eating, days, strokes. One sentence, one test. */
public final class BellsBoundaryTest {
    private static final int NONE = Boundary.NONE, BAD = Boundary.BAD, STATE = Boundary.STATE, FULL = Boundary.FULL;
    private static final int MIN = Boundary.MIN, MAX = Boundary.MAX;
    private static final int[] OUT_OF_BELLS = {-1, 5, 6, MIN, MAX};
    private static final int[] OUT_OF_FOODS = {-1, 4, MIN, MAX};
    private static final int[] OUT_OF_FED = {-1, 100, MIN, MAX};
    private static final int[] OUT_OF_DIGIT = {-1, 10, MIN, MAX};

    private static void test(String words, Boundary.Calls calls) {
        Boundary.test(words, calls);
    }

    private static void due(String call, long want, long got) {
        Boundary.due(call, want, got);
    }

    private static void newObject() {
        test("1: No BELLS", () -> {
            BellsThatEat x = new BellsThatEat();
            due("count(0)", 0, x.count(0));
            due("of", NONE, x.of(0, 0));
            due("told(4)", 0, x.told(4));
        });
        test("1: no UPLAND", () -> {
            BellsThatEat x = new BellsThatEat();
            due("count(1)", 0, x.count(1));
            due("told(2)", 9, x.told(2));
            due("told(3)", 0, x.told(3));
            due("the first one", 0, Boundary.upland(x, "tune 1"));
        });
        test("1: five of each FOOD", () -> {
            BellsThatEat x = new BellsThatEat();
            for (int food = 0; food < 4; food++) {
                due("STORE", 5, x.told(10 + food));
                due("store", 5, x.store(food, 0));
            }
        });
        test("1: all else is empty", () -> {
            BellsThatEat x = new BellsThatEat();
            for (int what = 2; what <= 7; what++) {
                due("count(" + what + ")", 0, x.count(what));
            }
            due("trace", NONE, x.trace(0));
            due("undo", STATE, x.undo());
            for (int tape = 0; tape < 6; tape++) {
                due("item", Boundary.NOTHING, x.item(tape, 0, 1));
            }
        });
        test("1: one object is not another", () -> {
            BellsThatEat x = Boundary.rich();
            BellsThatEat y = new BellsThatEat();
            due("count(0) of the one", 5, x.count(0));
            due("count(0) of the other", 0, y.count(0));
            due("TUNE of the other", 9, y.told(2));
            due("STORE of the other", 5, y.told(11));
        });
    }

    private static void bell() {
        test("2: its number: 0 at first, 5 at last", () -> {
            BellsThatEat x = new BellsThatEat();
            for (int n = 0; n < 6; n++) {
                due("bell", n, x.bell(6 - n, n, n));
                due("count(0)", n + 1, x.count(0));
            }
        });
        test("2: NONE: kind: too small, too large", () ->
            Boundary.refused("kind", NONE, (x, n) -> x.bell(n, 0, 0), -1, 7, MIN, MAX));
        test("2: BAD: v: too small, too large", () ->
            Boundary.refused("v", BAD, (x, n) -> x.bell(0, n, 0), OUT_OF_DIGIT));
        test("2: BAD: fed: too small, too large", () ->
            Boundary.refused("fed", BAD, (x, n) -> x.bell(0, 0, n), OUT_OF_FED));
        test("2: FULL: 6", () ->
            Boundary.refused(Boundary::richWithSix, "a seventh", FULL, x -> x.bell(0, 0, 0)));
        test("2: NONE ahead of BAD", () -> {
            Boundary.refused("kind 7, v 10", NONE, x -> x.bell(7, 10, 0));
            Boundary.refused("kind -1, fed 100", NONE, x -> x.bell(-1, 0, 100));
        });
        test("2: NONE and BAD ahead of FULL", () -> {
            Boundary.refused(Boundary::richWithSix, "kind 7", NONE, x -> x.bell(7, 0, 0));
            Boundary.refused(Boundary::richWithSix, "v 10", BAD, x -> x.bell(0, 10, 0));
            Boundary.refused(Boundary::richWithSix, "fed -1", BAD, x -> x.bell(0, 0, -1));
        });
        test("2: a refused one takes no number", () -> {
            BellsThatEat x = new BellsThatEat();
            x.bell(7, 0, 0);
            x.bell(0, 10, 0);
            due("bell", 0, x.bell(0, 0, 0));
        });
        test("2: a new one has a ROW of 0, also behind undo()", () -> {
            BellsThatEat x = new BellsThatEat();
            x.image();
            x.bell(6, 0, 0);
            x.row(0, 3, 9);
            x.undo();
            due("bell", 0, x.bell(6, 0, 0));
            due("ROW", 0, x.row(0, 3, 1));
        });
    }

    private static void of() {
        test("3: what 0 .. 6, 10 and f: each, of the last BELL too", () -> {
            BellsThatEat x = Boundary.bells(0, 0, 0, 0, 0, 0, 0, 0, 0, 0, 0, 0, 0, 0, 0, 6, 9, 48);
            int[] want = {6, 9, 48, 4, 39, 9, 1};
            for (int what = 0; what <= 6; what++) {
                due("of(5, " + what + ")", want[what], x.of(5, what));
            }
            int[] fills = {11, 14, 16, 19};
            for (int food = 0; food < 4; food++) {
                due("of(5, 10 and " + food + ")", fills[food], x.of(5, 10 + food));
            }
        });
        test("3: NONE: no such what: beside each that there is", () ->
            Boundary.refused("what", NONE, (x, n) -> x.of(0, n), -1, 7, 8, 9, 14, 15, MIN, MAX, MIN + 10, MAX - 4));
        test("3: NONE: no such BELL: too small, too large", () ->
            Boundary.refused("bell", NONE, (x, n) -> x.of(n, 0), OUT_OF_BELLS));
        test("3: NONE: no such BELL, there being none", () -> due("of", NONE, new BellsThatEat().of(0, 0)));
        test("3: of changes nothing", () -> {
            for (int what = 0; what <= 13; what++) {
                int asked = what;
                Boundary.asked("of(2, " + what + ")", x -> x.of(2, asked));
            }
        });
    }

    private static void fillAndStore() {
        test("4: FED becomes n: what it was: 0 and 99", () -> {
            BellsThatEat x = Boundary.bells(0, 0, 50, 0, 0, 51);
            due("fill", 50, x.fill(0, 0));
            due("FED", 0, x.of(0, 2));
            due("fill", 0, x.fill(0, 99));
            due("FED", 99, x.of(0, 2));
            due("fill", 99, x.fill(0, 99));
            due("FED of the other", 51, x.of(1, 2));
        });
        test("4: NONE: too small, too large", () ->
            Boundary.refused("bell", NONE, (x, n) -> x.fill(n, 5), OUT_OF_BELLS));
        test("4: BAD: too small, too large", () ->
            Boundary.refused("n", BAD, (x, n) -> x.fill(0, n), OUT_OF_FED));
        test("4: NONE ahead of BAD", () -> Boundary.refused("fill(5, 100)", NONE, x -> x.fill(5, 100)));
        test("4: of the last BELL", () -> {
            BellsThatEat x = Boundary.richWithSix();
            due("fill", 80, x.fill(5, 1));
            due("FED", 1, x.of(5, 2));
        });
        test("5: STORE becomes n: what it was: 0 and 99", () -> {
            for (int food = 0; food < 4; food++) {
                BellsThatEat x = new BellsThatEat();
                due("store", 5, x.store(food, 0));
                due("store", 0, x.store(food, 99));
                due("STORE", 99, x.told(10 + food));
                due("all", 114, x.told(10) + x.told(11) + x.told(12) + x.told(13));
            }
        });
        test("5: NONE: too small, too large", () ->
            Boundary.refused("food", NONE, (x, n) -> x.store(n, 7), OUT_OF_FOODS));
        test("5: BAD: too small, too large", () ->
            Boundary.refused("n", BAD, (x, n) -> x.store(0, n), OUT_OF_FED));
        test("5: NONE ahead of BAD", () -> Boundary.refused("store(4, 100)", NONE, x -> x.store(4, 100)));
    }

    private static void row() {
        test("6: The ROW becomes n (0 .. 9): what it was: the least and the most, of each part", () -> {
            for (int part = 0; part < 4; part++) {
                BellsThatEat x = Boundary.bells(6, 0, 50);
                due("row", 0, x.row(0, part, 9));
                due("row", 9, x.row(0, part, 0));
                due("row", 0, x.row(0, part, 0));
            }
        });
        test("6: NONE: bell: too small, too large", () ->
            Boundary.refused("bell", NONE, (x, n) -> x.row(n, 0, 5), OUT_OF_BELLS));
        test("6: NONE: part: too small, too large", () ->
            Boundary.refused("part", NONE, (x, n) -> x.row(2, n, 5), -1, 4, MIN, MAX));
        test("6: BAD: too small, too large", () ->
            Boundary.refused("n", BAD, (x, n) -> x.row(2, 0, n), OUT_OF_DIGIT));
        test("6: STATE: another KIND: each", () -> {
            for (int kind = 0; kind < 6; kind++) {
                int other = kind;
                Boundary.refused(() -> Boundary.bells(other, 3, 50), "row", STATE, x -> x.row(0, 0, 1));
            }
        });
        test("6: NONE ahead of BAD and STATE", () -> {
            Boundary.refused("bell 5, n 10", NONE, x -> x.row(5, 0, 10));
            Boundary.refused("part 4, n 10", NONE, x -> x.row(2, 4, 10));
            Boundary.refused("part 4 of another KIND", NONE, x -> x.row(0, 4, 1));
        });
        test("6: BAD ahead of STATE", () -> Boundary.refused("row(0, 0, 10)", BAD, x -> x.row(0, 0, 10)));
    }

    private static void feed() {
        test("7: A sign (0 .. 127): the least and the most: how many it has", () -> {
            BellsThatEat x = new BellsThatEat();
            due("feed(0)", 1, x.feed(0));
            due("feed(127)", 2, x.feed(127));
            due("count(6)", 2, x.count(6));
        });
        test("7: BAD: too small, too large", () ->
            Boundary.refused("sign", BAD, (x, n) -> x.feed(n), -1, 128, 256 + 't', 't' - 256, MIN, MAX));
        test("7: FULL: the hundredth comes, the next does not", () -> {
            for (int sign : new int[] {0, 't', 127}) {
                BellsThatEat x = new BellsThatEat();
                for (int i = 1; i <= 100; i++) {
                    due("feed", i, x.feed('t'));
                }
                due("a 101st", FULL, x.feed(sign));
                due("a 102nd", FULL, x.feed(sign));
                due("count(6)", 100, x.count(6));
            }
        });
        test("7: FULL: THE TEXT stays as it was", () -> {
            BellsThatEat x = new BellsThatEat();
            StringBuilder text = new StringBuilder("likes 10 ");
            for (int i = 0; i < 16; i++) {
                text.append("!b=1&");
            }
            Boundary.write(x, text.append("b=12;tune 1").toString());
            due("a 101st", FULL, x.feed('7'));
            due("upland", 0, x.upland());
            due("TUNE", 1, x.told(2));
        });
        test("7: BAD ahead of FULL", () -> {
            BellsThatEat x = new BellsThatEat();
            for (int i = 0; i < 100; i++) {
                x.feed('t');
            }
            due("feed(128)", BAD, x.feed(128));
            due("feed(-1)", BAD, x.feed(-1));
        });
        test("7: behind a full TEXT that is read the next one begins anew", () -> {
            BellsThatEat x = new BellsThatEat();
            for (int i = 0; i < 100; i++) {
                x.feed('t');
            }
            due("upland", -11, x.upland());
            due("feed", 1, x.feed('t'));
        });
    }

    private static BellsThatEat sixUplands() {
        BellsThatEat x = Boundary.bells(0, 3, 50);
        for (int n = 0; n < 6; n++) {
            due("upland()", n, Boundary.upland(x, "tune 1" + n + ";grow " + n));
        }
        Boundary.write(x, "tune 7");
        return x;
    }

    private static void upland() {
        test("8: THE TEXT, which is empty then, is an UPLAND", () -> {
            BellsThatEat x = new BellsThatEat();
            due("upland", 0, Boundary.upland(x, "tune 4"));
            due("count(6)", 0, x.count(6));
            due("an empty TEXT", -10, x.upland());
            due("TUNE", 4, x.told(2));
        });
        test("8: and holds: its number: the first 0, the sixth 5", () -> {
            BellsThatEat x = sixUplands();
            due("count(1)", 6, x.count(1));
            due("TUNE", 15, x.told(2));
            due("GROW", 5, x.told(3));
        });
        test("8: FULL: there are 6 (THE TEXT stays)", () -> {
            Boundary.refused(BellsBoundaryTest::sixUplands, "upland", FULL, x -> x.upland());
            BellsThatEat x = sixUplands();
            due("upland", FULL, x.upland());
            due("feed", 7, x.feed('7'));
            due("upland", FULL, x.upland());
            due("count(6)", 7, x.count(6));
            due("TUNE", 15, x.told(2));
        });
        test("8: FULL: ahead of any FAULT, THE TEXT stays too", () -> {
            BellsThatEat x = sixUplands();
            x.feed('x');
            due("upland", FULL, x.upland());
            due("count(6)", 7, x.count(6));
        });
        test("8: -10 less the FAULT: at 0, at a place, at the end", () -> {
            BellsThatEat x = new BellsThatEat();
            due("at 0", -10, Boundary.upland(x, "x"));
            due("at 4", -14, Boundary.upland(x, "tunes 1"));
            due("at the end", -15, Boundary.upland(x, "tune "));
            due("of an empty TEXT", -10, x.upland());
        });
        test("8: -10 less the FAULT: THE TEXT is empty then", () -> {
            BellsThatEat x = new BellsThatEat();
            due("upland", -13, Boundary.upland(x, "tun3"));
            due("count(6)", 0, x.count(6));
            due("the next", 0, Boundary.upland(x, "tune 3"));
        });
        test("8: -10 less the FAULT (the one that held holds)", () -> {
            BellsThatEat x = Boundary.in("tune 4;grow 3;likes 2 b=0", 0, 0, 50);
            due("upland", -37, Boundary.upland(x, "tune 1;grow 1;likes 50 b=0;xxx"));
            due("TUNE", 4, x.told(2));
            due("GROW", 3, x.told(3));
            due("FILLS", 7, x.of(0, 10));
            due("count(1)", 1, x.count(1));
        });
        test("8: -10 less the FAULT: without one there is none then either", () -> {
            BellsThatEat x = Boundary.bells(0, 0, 50);
            due("upland", -24, Boundary.upland(x, "tune 1;grow 1;"));
            due("TUNE", 9, x.told(2));
            due("GROW", 0, x.told(3));
            due("count(1)", 0, x.count(1));
        });
        test("8: -10 less the FAULT: it is none of the 6", () -> {
            BellsThatEat x = new BellsThatEat();
            for (int n = 0; n < 6; n++) {
                due("a FAULT", -10, Boundary.upland(x, "x"));
                due("upland", n, Boundary.upland(x, "tune 1"));
            }
            due("FULL", FULL, Boundary.upland(x, "tune 1"));
        });
        test("8: -10 less the FAULT: nothing of it is left in the next one", () -> {
            BellsThatEat x = Boundary.bells(0, 0, 50);
            Boundary.upland(x, "tune 1;grow 9;likes 50 b=0;likes 7 b<3&f<3;loathes 1 b=0&");
            due("upland", 0, Boundary.upland(x, "likes 1 b=0"));
            due("TUNE", 9, x.told(2));
            due("GROW", 0, x.told(3));
            due("FILLS", 6, x.of(0, 10));
        });
    }

    private static void uplandsLeft() {
        test("8: -10 less the FAULT: nothing is left, however many there were, each as long as can be", () -> {
            BellsThatEat x = Boundary.bells(0, 0, 50);
            StringBuilder text = new StringBuilder("likes 7 ");
            for (int i = 0; i < 11; i++) {
                text.append("!!!!b=0&");
            }
            due("its bytes", 96, text.length());
            for (int i = 0; i < 3; i++) {
                due("a FAULT", -109, Boundary.upland(x, text + "b=0x"));
            }
            due("upland", 0, Boundary.upland(x, text + "b=00"));
            due("FILLS", 12, x.of(0, 10));
            due("count(1)", 1, x.count(1));
        });
    }

    private static void told() {
        test("9: What 0 .. 4, 10 and f: each", () -> {
            BellsThatEat x = Boundary.in("tune 8;grow 3", 0, 0, 50, 0, 0, 9, 5, 0, 88);
            x.eats(0, 1);
            x.pass(1);
            int[] want = {1, 1, 8, 3, 5};
            for (int what = 0; what <= 4; what++) {
                due("told(" + what + ")", want[what], x.told(what));
            }
            int[] store = {8, 4, 5, 5};
            for (int food = 0; food < 4; food++) {
                due("told(10 and " + food + ")", store[food], x.told(10 + food));
            }
        });
        test("9: who is IN TUNE (bits): none, the last alone, all six", () -> {
            due("no BELLS", 0, new BellsThatEat().told(4));
            BellsThatEat x = Boundary.bells(0, 0, 0, 0, 0, 0, 0, 0, 0, 0, 0, 0, 0, 0, 0, 0, 0, 50);
            due("the last", 32, x.told(4));
            x.fill(5, 0);
            due("none", 0, x.told(4));
            for (int b = 0; b < 6; b++) {
                x.fill(b, 50);
            }
            due("all", 63, x.told(4));
        });
        test("9: NONE: beside each that there is", () ->
            Boundary.refused("what", NONE, (x, n) -> x.told(n), -1, 5, 6, 9, 14, 15, MIN, MAX, MIN + 10, MAX - 4));
        test("9: told changes nothing", () -> {
            for (int what = 0; what <= 13; what++) {
                int asked = what;
                Boundary.asked("told(" + what + ")", x -> x.told(asked));
            }
        });
    }

    private static void eats() {
        test("10: FED then: by the first and the last BELL and FOOD", () -> {
            BellsThatEat x = Boundary.sixBells();
            due("eats", 55, x.eats(0, 0));
            due("eats", 46, x.eats(5, 3));
            due("FED", 46, x.of(5, 2));
        });
        test("10: NONE: bell: too small, too large", () ->
            Boundary.refused("bell", NONE, (x, n) -> x.eats(n, 0), OUT_OF_BELLS));
        test("10: NONE: food: too small, too large", () ->
            Boundary.refused("food", NONE, (x, n) -> x.eats(0, n), OUT_OF_FOODS));
        test("10: STATE: there is none in STORE", () -> {
            for (int food = 0; food < 4; food++) {
                int none = food;
                Boundary.refused(() -> {
                    BellsThatEat x = Boundary.rich();
                    x.store(none, 0);
                    return x;
                }, "eats", STATE, x -> x.eats(0, none));
            }
        });
        test("10: STATE: behind the last one", () -> {
            BellsThatEat x = Boundary.bells(5, 0, 50);
            for (int i = 0; i < 5; i++) {
                due("eats", 50, x.eats(0, 2));
            }
            due("there is none", STATE, x.eats(0, 2));
            due("EATEN", 5, x.told(1));
            due("STORE", 0, x.told(12));
        });
        test("10: NONE ahead of STATE", () -> {
            BellsThatEat x = Boundary.bells(0, 0, 50);
            Boundary.stores(x, 0, 0, 0, 0);
            due("no bell", NONE, x.eats(1, 0));
            due("no food", NONE, x.eats(0, 4));
        });
    }

    private static void pass() {
        test("11: n DAYS (0 .. 60) go: DAY: none", () -> {
            BellsThatEat x = Boundary.rich();
            due("pass(0)", 2, x.pass(0));
            Boundary.asked("pass(0)", y -> y.pass(0));
        });
        test("11: n DAYS (0 .. 60) go: DAY: one, and 60", () -> {
            BellsThatEat x = Boundary.in("grow 1", 2, 0, 99);
            due("pass(1)", 1, x.pass(1));
            due("FED", 98, x.of(0, 2));
            due("pass(60)", 61, x.pass(60));
            due("FED", 38, x.of(0, 2));
            due("STORE", 21, x.told(10));
            due("STORE", 20, x.told(11));
        });
        test("11: BAD: too small, too large", () ->
            Boundary.refused("n", BAD, (x, n) -> x.pass(n), -1, 61, MIN, MAX));
        test("11: STATE: it would be above 9999: just 9999 is not", () -> {
            BellsThatEat x = new BellsThatEat();
            Boundary.passTo(x, 9939);
            due("pass(60)", 9999, x.pass(60));
            due("pass(0)", 9999, x.pass(0));
        });
        test("11: STATE: it would be above 9999: by one, by 60", () -> {
            BellsThatEat x = Boundary.bells(2, 0, 50);
            Boundary.passTo(x, 9940);
            x.fill(0, 50);
            due("pass(60)", STATE, x.pass(60));
            due("DAY", 9940, x.told(0));
            due("FED", 50, x.of(0, 2));
            due("pass(59)", 9999, x.pass(59));
            due("pass(1)", STATE, x.pass(1));
            due("pass(60)", STATE, x.pass(60));
            due("DAY", 9999, x.told(0));
        });
        test("11: BAD ahead of STATE", () -> {
            BellsThatEat x = new BellsThatEat();
            Boundary.passTo(x, 9999);
            due("pass(61)", BAD, x.pass(61));
            due("pass(-1)", BAD, x.pass(-1));
            due("pass", BAD, x.pass(MAX));
        });
    }

    private static void strike() {
        test("12: whether it is good: 1, 0, of the first and the last", () -> {
            BellsThatEat x = Boundary.sixBells();
            due("strike(0)", 1, x.strike(0));
            due("strike(5)", 1, x.strike(5));
            x.fill(0, 0);
            x.fill(5, 99);
            due("strike(0)", 0, x.strike(0));
            due("strike(5)", 0, x.strike(5));
        });
        test("12: NONE: too small, too large", () ->
            Boundary.refused("bell", NONE, (x, n) -> x.strike(n), OUT_OF_BELLS));
        test("12: NONE: there are no BELLS", () -> due("strike", NONE, new BellsThatEat().strike(0)));
    }

    public static void main(String[] args) {
        newObject();
        bell();
        of();
        fillAndStore();
        row();
        feed();
        upland();
        uplandsLeft();
        told();
        eats();
        pass();
        strike();
        Boundary.end();
    }
}
