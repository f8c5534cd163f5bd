import java.util.Arrays;

/** The boundaries that promises 31 to 41 name: judging, the image, acts, tapes; and how many calls there may be. */
public final class TapesBoundaryTest {
    private static final int NONE = Boundary.NONE, BAD = Boundary.BAD, STATE = Boundary.STATE, FULL = Boundary.FULL;
    private static final int NOT_SO = Boundary.NOT_SO, NOTHING = Boundary.NOTHING, CAST = Boundary.CAST;
    private static final int PLACE = Boundary.PLACE, SIZE = Boundary.SIZE;
    private static final long NO = Boundary.NO;
    private static final int MIN = Boundary.MIN, MAX = Boundary.MAX;
    private static final int BYTES = Boundary.BYTES, SHORTS = Boundary.SHORTS, INTS = Boundary.INTS;
    private static final int LONGS = Boundary.LONGS, BOOLEANS = Boundary.BOOLEANS;
    private static final int[] OUT_OF_TAPES = {-1, 6, MIN, MAX};
    private static final int[] OUT_OF_BELLS = {-1, 5, 6, MIN, MAX};

    private static void test(String words, Boundary.Calls calls) {
        Boundary.test(words, calls);
    }

    private static void due(String call, long want, long got) {
        Boundary.due(call, want, got);
    }

    /** Six BELLS, of which 0, 2 and 5 are IN TUNE. */
    private static BellsThatEat threeInTune() {
        return Boundary.bells(0, 0, 50, 0, 0, 0, 0, 0, 50, 0, 0, 0, 0, 0, 0, 0, 0, 50);
    }

    private static void judge() {
        test("31: JUDGED: -5: none: a row that ends just behind, one that goes on", () -> {
            BellsThatEat x = threeInTune();
            Boundary.items(x, 0, BOOLEANS, 1, 0, 1, 0, 0, 1);
            due("judge", NOT_SO, x.judge(0, 0));
            Boundary.items(x, 0, BOOLEANS, 1, 0, 1, 0, 0, 1, 0, 1);
            due("judge", NOT_SO, x.judge(0, 0));
        });
        test("31: JUDGED from place i on: the last place from which all are told, and the one behind it", () -> {
            BellsThatEat x = threeInTune();
            Boundary.items(x, 5, BOOLEANS, 0, 0, 1, 0, 1, 0, 0, 1);
            due("judge", NOT_SO, x.judge(5, 2));
            due("judge", 0, x.judge(5, 3));
            x.tape(5, BOOLEANS, 60);
            for (int i : new int[] {54, 56, 59}) {
                x.item(5, i, 1);
            }
            due("judge", NOT_SO, x.judge(5, 54));
            x.tape(5, BOOLEANS, 60);
            x.fill(0, 0);
            x.fill(2, 0);
            due("one too few", 105, x.judge(5, 55));
        });
        test("31: JUDGED: the first that is otherwise: each of six, both ways", () -> {
            for (int b = 0; b < 6; b++) {
                BellsThatEat x = threeInTune();
                Boundary.items(x, 0, BOOLEANS, 1, 0, 1, 0, 0, 1);
                x.item(0, b, 1 - x.read(0, b));
                due("judge", b, x.judge(0, 0));
            }
        });
        test("31: JUDGED: the first that is otherwise: of several", () -> {
            BellsThatEat x = threeInTune();
            Boundary.items(x, 0, BOOLEANS, 1, 0, 0, 1, 1, 0);
            due("judge", 2, x.judge(0, 0));
        });
        test("31: JUDGED: -5: there is none to look at: whatever the place is", () -> {
            BellsThatEat x = new BellsThatEat();
            x.tape(0, BOOLEANS, 3);
            x.tape(1, BOOLEANS, 0);
            for (int place : new int[] {0, 2, 3, -1, MIN, MAX}) {
                due("a row, from " + place, NOT_SO, x.judge(0, place));
                due("an empty row, from " + place, NOT_SO, x.judge(1, place));
                due("nothing, from " + place, NOT_SO, x.judge(2, place));
            }
        });
        test("31: JUDGED: 100 and how many were looked at, if the row ends ahead of that: 0 .. 5", () -> {
            long[] row = {1, 0, 1, 0, 0, 1};
            for (int length = 0; length < 6; length++) {
                BellsThatEat x = threeInTune();
                Boundary.items(x, 0, BOOLEANS, Arrays.copyOf(row, length));
                due("a row of " + length, 100 + length, x.judge(0, 0));
            }
        });
        test("31: JUDGED: 100 and how many: from a place near the end, at it, beyond it", () -> {
            BellsThatEat x = threeInTune();
            Boundary.items(x, 0, BOOLEANS, 0, 1, 0, 1);
            due("three", 103, x.judge(0, 1));
            due("one", 101, x.judge(0, 3));
            due("none", 100, x.judge(0, 4));
            due("none", 100, x.judge(0, 5));
            due("none", 100, x.judge(0, MAX));
            due("none", 100, x.judge(0, MAX - 3));
        });
        test("31: JUDGED: one that is otherwise ahead of the end of the row", () -> {
            BellsThatEat x = threeInTune();
            Boundary.items(x, 0, BOOLEANS, 1, 1);
            due("judge", 1, x.judge(0, 0));
        });
        test("31: JUDGED: 100: the place is below 0", () -> {
            BellsThatEat x = threeInTune();
            Boundary.items(x, 0, BOOLEANS, 1, 0, 1, 0, 0, 1);
            for (int place : new int[] {-1, -6, -60, MIN}) {
                due("from " + place, 100, x.judge(0, place));
            }
        });
        test("31: JUDGED: 100: the TAPE holds nothing: at first, and anew", () -> {
            BellsThatEat x = threeInTune();
            due("at first", 100, x.judge(0, 0));
            Boundary.items(x, 0, BOOLEANS, 1, 0, 1, 0, 0, 1);
            x.tape(0, -1, 0);
            due("anew", 100, x.judge(0, 0));
            due("below 0", 100, x.judge(0, -1));
        });
        test("31: NONE: tape: too small, too large", () -> {
            Boundary.refused("tape", NONE, (x, n) -> x.judge(n, 0), OUT_OF_TAPES);
            Boundary.refused(BellsThatEat::new, "tape 6 of no BELLS", NONE, x -> x.judge(6, 0));
        });
        test("31: CAST: it is no row of booleans: each other sort, whatever the place is", () -> {
            for (int sort = BYTES; sort <= LONGS; sort++) {
                for (int length : new int[] {0, 6, 60}) {
                    BellsThatEat x = threeInTune();
                    x.tape(0, sort, length);
                    due("sort " + sort, CAST, x.judge(0, 0));
                    due("sort " + sort, CAST, x.judge(0, -1));
                    due("sort " + sort, CAST, x.judge(0, length));
                }
            }
        });
        test("31: judge changes nothing", () -> Boundary.asked("judge(0, 0)", x -> x.judge(0, 0)));
    }

    private static void image() {
        test("32: THE IMAGE is taken: how many BELLS there are: none, six", () -> {
            due("none", 0, new BellsThatEat().image());
            due("six", 6, Boundary.sixBells().image());
        });
        test("32: THE IMAGE: a newer one is in place of the one ahead of it", () -> {
            BellsThatEat x = Boundary.bells(0, 0, 50);
            x.image();
            x.fill(0, 40);
            x.image();
            x.fill(0, 30);
            due("undo", 1, x.undo());
            due("FED", 40, x.of(0, 2));
        });
        test("33: STATE: there is none", () ->
            Boundary.refused(Boundary::sixBells, "undo", STATE, x -> x.undo()));
        test("33: All is as THE IMAGE: also a second time", () -> {
            BellsThatEat x = Boundary.bells(0, 0, 50);
            x.image();
            for (int i = 0; i < 3; i++) {
                x.fill(0, i);
                due("undo", 1, x.undo());
                due("FED", 50, x.of(0, 2));
            }
        });
        test("33: All is as THE IMAGE: of an empty one", () -> {
            BellsThatEat x = new BellsThatEat();
            x.image();
            Boundary.upland(x, "tune 3;grow 7");
            x.bell(6, 5, 50);
            x.eats(0, 0);
            x.pass(5);
            x.peal(0);
            x.see(0, 50, 0);
            x.feeding(0, 0);
            x.book(0, 50);
            due("undo", 0, x.undo());
            int[] count = {0, 1, 0, 0, 0, 0, 0, 0};
            for (int what = 0; what <= 7; what++) {
                due("count(" + what + ")", count[what], x.count(what));
            }
            int[] told = {0, 0, 9, 0, 0};
            for (int what = 0; what <= 4; what++) {
                due("told(" + what + ")", told[what], x.told(what));
            }
            for (int food = 0; food < 4; food++) {
                due("STORE", 5, x.told(10 + food));
            }
        });
        test("33: All is as THE IMAGE: BELLS that came behind it are gone, those ahead are there with all that is theirs", () -> {
            BellsThatEat x = Boundary.bells(6, 4, 41);
            for (int part = 0; part < 4; part++) {
                x.row(0, part, part + 2);
            }
            x.image();
            x.bell(1, 9, 99);
            for (int part = 0; part < 4; part++) {
                x.row(0, part, 9);
            }
            x.fill(0, 7);
            due("undo", 1, x.undo());
            due("the other", NONE, x.of(1, 0));
            int[] of = {6, 4, 41};
            for (int what = 0; what <= 2; what++) {
                due("of", of[what], x.of(0, what));
            }
            for (int part = 0; part < 4; part++) {
                due("ROW", part + 2, x.row(0, part, 0));
            }
            due("the next number", 1, x.bell(0, 0, 0));
        });
        test("33: All is as THE IMAGE: STORES, DAY, EATEN", () -> {
            BellsThatEat x = Boundary.bells(0, 0, 50);
            Boundary.stores(x, 4, 0, 99, 7);
            x.eats(0, 0);
            x.pass(7);
            x.image();
            Boundary.stores(x, 1, 2, 3, 4);
            x.eats(0, 0);
            x.pass(60);
            x.undo();
            int[] store = {3, 0, 99, 7};
            for (int food = 0; food < 4; food++) {
                due("STORE", store[food], x.told(10 + food));
            }
            due("DAY", 7, x.told(0));
            due("EATEN", 1, x.told(1));
        });
        test("33: All is as THE IMAGE: full lists are full again, empty ones empty", () -> {
            BellsThatEat x = Boundary.bells(0, 0, 50);
            x.image();
            for (int i = 0; i < 10; i++) {
                x.peal(0);
                x.see(0, 50, 0);
                x.feeding(0, 0);
                x.book(0, 50);
            }
            x.undo();
            for (int what = 2; what <= 5; what++) {
                due("empty, count(" + what + ")", 0, x.count(what));
            }
            for (int i = 0; i < 10; i++) {
                x.peal(0);
                x.see(0, 50, 0);
                x.feeding(0, 0);
                x.book(0, 50);
            }
            x.image();
            x.peal(-1);
            x.see(-1, 0, 0);
            x.feeding(-1, 0);
            x.book(-1, 0);
            x.undo();
            int[] full = {10, 5, 10, 8};
            for (int what = 2; what <= 5; what++) {
                due("full, count(" + what + ")", full[what - 2], x.count(what));
            }
            due("peal", FULL, x.peal(0));
            due("see", FULL, x.see(0, 0, 0));
            due("feeding", FULL, x.feeding(0, 0));
            due("book", FULL, x.book(0, 0));
        });
        test("33: All is as THE IMAGE: the PEAL, SEEN, the FEEDING, the BOOK, row by row", () -> {
            BellsThatEat x = Boundary.bells(0, 0, 50, 5, 0, 0);
            x.peal(0);
            x.peal(1);
            x.see(0, 50, 0);
            x.see(0, 46, 2);
            x.feeding(0, 0);
            x.feeding(6, 0);
            x.book(0, 50);
            x.book(1, 3);
            int[] asked = {x.good(0), x.good(1), x.can(0, 0), x.can(0, 1), x.gone(0), x.gone(1), x.looked()};
            x.image();
            x.peal(-1);
            x.peal(1);
            x.peal(0);
            x.see(-1, 0, 0);
            x.see(1, 3, 2);
            x.see(1, 0, 2);
            x.feeding(-1, 0);
            x.feeding(1, 3);
            x.feeding(1, 3);
            x.book(-1, 0);
            x.book(1, 3);
            x.book(0, 50);
            x.undo();
            int[] then = {x.good(0), x.good(1), x.can(0, 0), x.can(0, 1), x.gone(0), x.gone(1), x.looked()};
            for (int i = 0; i < asked.length; i++) {
                due("asked " + i, asked[i], then[i]);
            }
        });
        test("33: All is as THE IMAGE: which UPLAND holds; the first, none", () -> {
            BellsThatEat x = Boundary.bells(0, 0, 50);
            x.image();
            due("upland", 0, Boundary.upland(x, "tune 3;likes 1 b=0"));
            x.undo();
            due("none", 9, x.told(2));
            due("none", 5, x.of(0, 10));
            due("upland", 1, Boundary.upland(x, "tune 4;likes 2 b=0"));
            x.image();
            due("upland", 2, Boundary.upland(x, "tune 5;likes 3 b=0"));
            x.undo();
            due("the second", 4, x.told(2));
            due("the second", 7, x.of(0, 10));
        });
        test("33: All is as THE IMAGE: which UPLAND holds, not how many there are: FULL stays so", () -> {
            BellsThatEat x = new BellsThatEat();
            x.image();
            for (int n = 0; n < 6; n++) {
                due("upland", n, Boundary.upland(x, "tune 1"));
            }
            x.undo();
            due("count(1)", 6, x.count(1));
            due("FULL", FULL, Boundary.upland(x, "tune 1"));
            due("TUNE", 9, x.told(2));
        });
        test("33: All is as THE IMAGE: the UPLAND that holds again holds behind a FAULT and a FULL too", () -> {
            BellsThatEat x = Boundary.in("tune 3");
            x.image();
            Boundary.upland(x, "tune 4");
            x.undo();
            due("a FAULT", -16, Boundary.upland(x, "tune 5?"));
            due("TUNE", 3, x.told(2));
            for (int n = 2; n < 6; n++) {
                due("upland", n, Boundary.upland(x, "tune 6"));
            }
            x.undo();
            due("FULL", FULL, Boundary.upland(x, "tune 7"));
            due("TUNE", 3, x.told(2));
        });
        test("33: what is not of THE IMAGE stays: THE TEXT, TAPES, THE TRACE", () -> {
            BellsThatEat x = Boundary.bells(0, 0, 50);
            x.image();
            x.feed('t');
            Boundary.items(x, 0, LONGS, 7, 8);
            x.act(0, 2, 5);
            x.undo();
            due("THE TEXT", 1, x.count(6));
            Boundary.itemsAre(x, 0, 7, 8);
            due("THE TRACE", 3, x.count(7));
            due("THE TRACE", 12, x.trace(0));
        });
        test("33: what goes on behind undo() does not reach THE IMAGE", () -> {
            BellsThatEat x = Boundary.bells(6, 3, 50);
            x.peal(0);
            x.see(0, 50, 0);
            x.feeding(0, 0);
            x.book(0, 50);
            x.image();
            x.undo();
            x.row(0, 1, 8);
            x.fill(0, 1);
            x.store(2, 77);
            x.pass(3);
            x.peal(0);
            x.see(0, 3, 3);
            x.feeding(0, 0);
            x.book(0, 3);
            due("undo", 1, x.undo());
            due("ROW", 0, x.row(0, 1, 0));
            due("FED", 50, x.of(0, 2));
            due("STORE", 5, x.told(12));
            due("DAY", 0, x.told(0));
            for (int what = 2; what <= 5; what++) {
                due("count(" + what + ")", 1, x.count(what));
            }
        });
    }

    /** An act() of BELL i, which is of that KIND. */
    private static BellsThatEat acting(int i, int kind, int v) {
        BellsThatEat x = new BellsThatEat();
        for (int b = 0; b < i; b++) {
            x.bell(0, 0, 0);
        }
        x.bell(kind, v, 50);
        return x;
    }

    private static void acts(String what, int i, int kind, int v, int act, int x, int want) {
        due(what, want, acting(i, kind, v).act(i, act, x));
    }

    private static void act() {
        test("34: i its number: 0 and 5; v: 0 and 9", () -> {
            acts("swings", 0, 0, 9, 0, 7, 7);
            acts("swings", 5, 0, 9, 0, 7, 12);
            acts("rings", 0, 0, 0, 1, 7, 7);
            acts("rings", 5, 0, 9, 1, 7, 3);
            acts("tells", 5, 5, 0, 2, 7, ((7 - 5) * 3 + 5) * 2);
        });
        test("34: x (wrapping): 10 swings: x + i", () -> {
            acts("at the most", 1, 0, 0, 0, MAX, MIN);
            acts("at the most", 5, 0, 0, 0, MAX, MIN + 4);
            acts("just not", 5, 0, 0, 0, MAX - 5, MAX);
        });
        test("34: x (wrapping): 11 rings: swings(x) - v", () -> {
            acts("at the least", 0, 0, 9, 1, MIN, MAX - 8);
            acts("just not", 0, 0, 9, 1, MIN + 9, MIN);
            acts("there and back", 5, 0, 9, 1, MAX, MAX - 4);
        });
        test("34: x (wrapping): 12 tells: rings(x) * 2", () -> {
            acts("beyond the most", 0, 0, 0, 2, 1 << 30, MIN);
            acts("beyond the least", 0, 0, 0, 2, MIN, 0);
            acts("beyond the least", 0, 0, 1, 2, MIN, -2);
            acts("at the most", 0, 0, 0, 2, MAX, -2);
        });
        test("34: x (wrapping): 20 rings: super.rings(x) ^ 6", () -> {
            acts("at the least", 0, 1, 0, 1, MIN, MIN + 6);
            acts("at the most", 0, 1, 0, 1, MAX, MAX - 6);
            acts("around", 0, 1, 1, 1, MIN, MAX ^ 6);
        });
        test("34: x (wrapping): 30 swings: super.swings(x * 3)", () -> {
            acts("at the most", 0, 2, 0, 0, MAX, MAX - 2);
            acts("at the least", 0, 2, 0, 0, MIN, MIN);
            acts("a third", 0, 2, 0, 0, 715827883, MIN + 1);
            acts("a third, and i", 2, 2, 0, 0, 715827882, MIN);
        });
        test("34: x (wrapping): 40 tells: super.tells(x) + rings(1)", () -> {
            acts("at the most", 0, 3, 0, 2, (1 << 30) - 1, MAX);
            acts("beyond", 1, 3, 0, 2, (1 << 30) - 2, MIN);
            acts("at the least", 0, 3, 9, 2, MIN + 9, -8);
        });
        test("34: x (wrapping): 50 swings: -super.swings(x)", () -> {
            acts("of the least", 0, 4, 0, 0, MIN, MIN);
            acts("of the most", 0, 4, 0, 0, MAX, MIN + 1);
            acts("beyond the most", 1, 4, 0, 0, MAX, MIN);
        });
        test("34: x (wrapping): 51 rings: super.rings(x + 1)", () -> {
            acts("at the most", 0, 4, 0, 1, MAX, MIN ^ 6);
            acts("just not", 0, 4, 0, 1, MAX - 1, -MAX ^ 6);
        });
        test("34: x (wrapping): 60 tells: super.tells(x - i)", () -> {
            acts("at the least", 1, 5, 0, 2, MIN, (MAX * 3 + 1) * 2);
            acts("at the least", 5, 5, 0, 2, MIN, ((MIN - 5) * 3 + 5) * 2);
        });
        test("34: x (wrapping): 70 rings, 71 swings: super.rings(x) + super.swings(2), ^ v", () -> {
            acts("at the most", 0, 6, 0, 1, MAX, MIN + 1);
            acts("at the least", 0, 6, 9, 1, MIN, (MIN ^ 9) - 9 + 2);
            acts("swings at the most", 1, 6, 9, 0, MAX, MIN ^ 9);
            acts("tells at the most", 0, 6, 0, 2, MAX, (MAX + 2) * 2 + 1 + 2);
        });
        test("34: 0, and no TRACE then: no such BELL: too small, too large", () -> {
            for (int bell : OUT_OF_BELLS) {
                BellsThatEat x = Boundary.rich();
                due("of what was", 12, x.count(7));
                due("act", 0, x.act(bell, 0, 7));
                due("count(7)", 0, x.count(7));
                due("trace", NONE, x.trace(0));
            }
        });
        test("34: 0, and no TRACE then: no such act: too small, too large", () -> {
            for (int act : new int[] {-1, 3, MIN, MAX}) {
                BellsThatEat x = Boundary.rich();
                due("of what was", 12, x.count(7));
                due("act", 0, x.act(0, act, 7));
                due("count(7)", 0, x.count(7));
                due("trace", NONE, x.trace(0));
            }
        });
        test("34: an ACT changes nothing of the BELL", () -> {
            BellsThatEat x = acting(1, 6, 9);
            x.act(1, 2, 12345);
            due("FED", 50, x.of(1, 2));
            due("v", 9, x.of(1, 1));
            due("act again", x.act(1, 2, 12345), x.act(1, 2, 12345));
        });
    }

    private static void trace() {
        test("35: THE TRACE: no act() yet: NONE", () -> {
            BellsThatEat x = Boundary.bells(0, 0, 0);
            due("trace(0)", NONE, x.trace(0));
            due("count(7)", 0, x.count(7));
        });
        test("35: THE TRACE's i-th body: the first, the last; NONE: too small, too large", () -> {
            BellsThatEat x = acting(0, 0, 0);
            x.act(0, 2, 5);
            due("the first", 12, x.trace(0));
            due("the last", 10, x.trace(2));
            for (int i : new int[] {-1, 3, 19, 20, MIN, MAX}) {
                due("trace(" + i + ")", NONE, x.trace(i));
            }
        });
        test("35: THE TRACE: as they began; the first 20 are kept: the longest has 12, all kept", () -> {
            int[] want = {40, 12, 70, 11, 71, 10, 10, 70, 11, 71, 10, 10};
            BellsThatEat x = acting(0, 6, 5);
            x.act(0, 2, 5);
            due("count(7)", 12, x.count(7));
            for (int i = 0; i < 12; i++) {
                due("trace(" + i + ")", want[i], x.trace(i));
            }
            for (int i = 12; i <= 21; i++) {
                due("trace(" + i + ")", NONE, x.trace(i));
            }
        });
        test("35: THE TRACE: of the latest act(): nothing of a longer one ahead of it", () -> {
            BellsThatEat x = acting(0, 6, 5);
            x.act(0, 2, 5);
            x.act(0, 0, 5);
            due("count(7)", 2, x.count(7));
            due("trace(0)", 71, x.trace(0));
            due("trace(1)", 10, x.trace(1));
            due("trace(2)", NONE, x.trace(2));
        });
        test("35: trace changes nothing", () -> Boundary.asked("trace(0)", x -> x.trace(0)));
    }

    private static void taken() {
        test("36: taken for one of KIND k (0 .. 6), or one under that: its KIND; CAST: each of each", () -> {
            String[] under = {"0", "01", "02", "03", "014", "025", "036"};
            for (int kind = 0; kind <= 6; kind++) {
                for (int k = 0; k <= 6; k++) {
                    boolean is = under[kind].indexOf('0' + k) >= 0;
                    due("KIND " + kind + " for " + k, is ? kind : CAST, acting(5, kind, 0).taken(5, k));
                }
            }
        });
        test("36: BAD: k: too small, too large", () ->
            Boundary.refused("k", BAD, (x, n) -> x.taken(0, n), -1, 7, MIN, MAX));
        test("36: NOTHING: no such BELL: too small, too large", () ->
            Boundary.refused("bell", NOTHING, (x, n) -> x.taken(n, 0), OUT_OF_BELLS));
        test("36: BAD ahead of NOTHING", () -> Boundary.refused("taken(5, 7)", BAD, x -> x.taken(5, 7)));
        test("36: CAST: changes nothing", () -> Boundary.refused("taken(0, 1)", CAST, x -> x.taken(0, 1)));
        test("36: taken changes nothing", () -> Boundary.asked("taken(2, 3)", x -> x.taken(2, 3)));
    }

    private static void count() {
        test("37: How many: 0 .. 7: each, when full", () -> {
            BellsThatEat x = Boundary.sixBells();
            for (int n = 0; n < 6; n++) {
                Boundary.upland(x, "tune 1");
            }
            for (int i = 0; i < 11; i++) {
                x.peal(0);
                x.see(0, 0, 0);
                x.feeding(6, 0);
                x.book(0, 0);
            }
            for (int i = 0; i < 101; i++) {
                x.feed('t');
            }
            x.act(5, 2, 1);
            x.bell(0, 0, 0);
            int[] want = {6, 6, 10, 5, 10, 8, 100, 12};
            for (int what = 0; what <= 7; what++) {
                due("count(" + what + ")", want[what], x.count(what));
            }
        });
        test("37: How many: 0 .. 7: each, when empty", () -> {
            for (int what = 0; what <= 7; what++) {
                due("count(" + what + ")", 0, new BellsThatEat().count(what));
            }
        });
        test("37: BAD: too small, too large", () ->
            Boundary.refused("what", BAD, (x, n) -> x.count(n), -1, 8, MIN, MAX));
        test("37: count changes nothing", () -> Boundary.asked("count(7)", x -> x.count(7)));
    }

    private static void tape() {
        test("38: TAPES 0 .. 5 hold nothing (at first)", () -> {
            for (int tape = 0; tape <= 5; tape++) {
                BellsThatEat x = new BellsThatEat();
                due("read", NO, x.read(tape, 0));
                due("item", NOTHING, x.item(tape, 0, 1));
                due("tape", 1, x.tape(tape, BYTES, 1));
                due("read", 0, x.read(tape, 0));
            }
        });
        test("38: A TAPE becomes a row of n (0 .. 60): 0, 1, 60", () -> {
            for (int sort = BYTES; sort <= BOOLEANS; sort++) {
                for (int n : new int[] {0, 1, 60}) {
                    BellsThatEat x = new BellsThatEat();
                    due("tape", 1, x.tape(5, sort, n));
                    due("behind the last", PLACE, x.item(5, n, 1));
                    due("behind the last", NO, x.read(5, n));
                    due("the last", n == 0 ? PLACE : 1, x.item(5, n - 1, 1));
                }
            }
        });
        test("38: all 0: also where another row was, longer or of another sort", () -> {
            BellsThatEat x = new BellsThatEat();
            x.tape(0, LONGS, 60);
            for (int i = 0; i < 60; i++) {
                x.item(0, i, -1 - i);
            }
            x.tape(0, INTS, 3);
            Boundary.itemsAre(x, 0, 0, 0, 0);
            x.tape(0, BOOLEANS, 60);
            for (int i = 0; i < 60; i++) {
                due("read " + i, 0, x.read(0, i));
            }
        });
        test("38: or holds nothing (sort -1: n does not matter)", () -> {
            for (int n : new int[] {0, -1, 60, 61, MIN, MAX}) {
                BellsThatEat x = new BellsThatEat();
                Boundary.items(x, 3, INTS, 5);
                due("tape", 1, x.tape(3, -1, n));
                due("read", NO, x.read(3, 0));
                due("item", NOTHING, x.item(3, 0, 1));
                due("tape", 1, x.tape(3, -1, n));
            }
        });
        test("38: NONE: tape: too small, too large", () ->
            Boundary.refused("tape", NONE, (x, n) -> x.tape(n, 0, 1), OUT_OF_TAPES));
        test("38: BAD: sort: too small, too large", () ->
            Boundary.refused("sort", BAD, (x, n) -> x.tape(0, n, 1), -2, 5, MIN, MAX));
        test("38: BAD: n above 60", () ->
            Boundary.refused("n", BAD, (x, n) -> x.tape(0, 4, n), 61, MAX));
        test("38: SIZE: a size below 0", () ->
            Boundary.refused("n", SIZE, (x, n) -> x.tape(0, 4, n), -1, MIN));
        test("38: NONE ahead of BAD, that ahead of SIZE", () -> {
            Boundary.refused("tape(6, 5, -1)", NONE, x -> x.tape(6, 5, -1));
            Boundary.refused("tape(6, -1, 0)", NONE, x -> x.tape(6, -1, 0));
            Boundary.refused("tape(-1, 0, 61)", NONE, x -> x.tape(-1, 0, 61));
            Boundary.refused("tape(0, 5, -1)", BAD, x -> x.tape(0, 5, -1));
            Boundary.refused("tape(0, -2, -1)", BAD, x -> x.tape(0, -2, -1));
        });
    }

    /** What an item of that sort is behind item(.., v). */
    private static void becomes(int sort, long v, long want) {
        BellsThatEat x = new BellsThatEat();
        x.tape(2, sort, 3);
        due("item", 1, x.item(2, 1, v));
        Boundary.itemsAre(x, 2, 0, want, 0);
    }

    private static void item() {
        test("39: bytes: its lowest 8 bits", () -> {
            long[][] is = {{127, 127}, {128, -128}, {255, -1}, {256, 0}, {-128, -128}, {-129, 127}, {1L << 32, 0},
                {Long.MAX_VALUE, -1}, {Long.MIN_VALUE, 0}};
            for (long[] n : is) {
                becomes(BYTES, n[0], n[1]);
            }
        });
        test("39: shorts: its lowest 16 bits", () -> {
            long[][] is = {{32767, 32767}, {32768, -32768}, {65535, -1}, {65536, 0}, {-32768, -32768}, {-32769, 32767},
                {1L << 32, 0}, {Long.MAX_VALUE, -1}, {Long.MIN_VALUE, 0}};
            for (long[] n : is) {
                becomes(SHORTS, n[0], n[1]);
            }
        });
        test("39: ints: its lowest 32 bits", () -> {
            long[][] is = {{MAX, MAX}, {1L << 31, MIN}, {(1L << 32) - 1, -1}, {1L << 32, 0}, {MIN, MIN}, {MIN - 1L, MAX},
                {Long.MAX_VALUE, -1}, {Long.MIN_VALUE, 0}};
            for (long[] n : is) {
                becomes(INTS, n[0], n[1]);
            }
        });
        test("39: longs: all its bits", () -> {
            for (long n : new long[] {0, -1, 1L << 32, Long.MAX_VALUE, Long.MIN_VALUE}) {
                becomes(LONGS, n, n);
            }
        });
        test("39: booleans: whether v is not 0, whatever its lowest bits are", () -> {
            for (long n : new long[] {1, -1, 2, 256, 1L << 32, 1L << 62, Long.MAX_VALUE, Long.MIN_VALUE}) {
                becomes(BOOLEANS, n, 1);
            }
            becomes(BOOLEANS, 0, 0);
            BellsThatEat x = new BellsThatEat();
            Boundary.items(x, 0, BOOLEANS, 5, 5);
            x.item(0, 0, 0);
            Boundary.itemsAre(x, 0, 0, 1);
        });
        test("39: Item i: the first and the last of 60", () -> {
            BellsThatEat x = new BellsThatEat();
            x.tape(0, LONGS, 60);
            due("item", 1, x.item(0, 0, 5));
            due("item", 1, x.item(0, 59, 6));
            due("read", 5, x.read(0, 0));
            due("read", 0, x.read(0, 1));
            due("read", 0, x.read(0, 58));
            due("read", 6, x.read(0, 59));
        });
        test("39: NONE: no such TAPE: too small, too large", () ->
            Boundary.refused("tape", NONE, (x, n) -> x.item(n, 0, 1), OUT_OF_TAPES));
        test("39: NOTHING: nothing is there, whatever the place is", () ->
            Boundary.refused("i", NOTHING, (x, n) -> x.item(2, n, 1), 0, -1, 60, MIN, MAX));
        test("39: PLACE: no such place: too small, too large, of an empty row", () -> {
            Boundary.refused("i", PLACE, (x, n) -> x.item(1, n, 1), -1, 2, 60, MIN, MAX);
            Boundary.refused("i", PLACE, (x, n) -> x.item(3, n, 1), -1, 0, 1);
        });
    }

    private static void read() {
        test("40: Item i: the first and the last", () -> {
            BellsThatEat x = Boundary.rich();
            due("the first", 77, x.read(1, 0));
            due("the last", -8, x.read(1, 1));
        });
        test("40: NO: no such TAPE: too small, too large", () ->
            Boundary.refused("tape", NO, (x, n) -> x.read(n, 0), OUT_OF_TAPES));
        test("40: NO: nothing there: at first, and anew", () -> {
            Boundary.refused("i", NO, (x, n) -> x.read(2, n), 0, -1, 60, MIN, MAX);
            BellsThatEat x = Boundary.rich();
            x.tape(1, -1, 0);
            due("read", NO, x.read(1, 0));
        });
        test("40: NO: no such place: too small, too large, of an empty row", () -> {
            Boundary.refused("i", NO, (x, n) -> x.read(1, n), -1, 2, 60, MIN, MAX);
            Boundary.refused("i", NO, (x, n) -> x.read(3, n), -1, 0, 1);
        });
        test("40: read changes nothing", () -> Boundary.asked("read(1, 1)", x -> x.read(1, 1)));
    }

    private static BellsThatEat twoRows() {
        BellsThatEat x = new BellsThatEat();
        Boundary.items(x, 0, INTS, 1, 2, 3, 4, 5);
        Boundary.items(x, 5, INTS, 11, 12, 13);
        Boundary.items(x, 1, SHORTS, 21, 22, 23);
        x.tape(2, INTS, 0);
        return x;
    }

    private static void shiftMoves() {
        test("41: n items come to another one: all, one, the last to the first", () -> {
            BellsThatEat x = twoRows();
            due("shift", 3, x.shift(0, 2, 5, 0, 3));
            Boundary.itemsAre(x, 5, 3, 4, 5);
            Boundary.itemsAre(x, 0, 1, 2, 3, 4, 5);
            due("shift", 1, x.shift(0, 0, 5, 2, 1));
            Boundary.itemsAre(x, 5, 3, 4, 1);
        });
        test("41: n items: 0: nowhere, from and to the very end", () -> {
            BellsThatEat x = twoRows();
            due("at the end of both", 0, x.shift(0, 5, 5, 3, 0));
            due("at the start of both", 0, x.shift(0, 0, 5, 0, 0));
            due("of an empty row", 0, x.shift(2, 0, 5, 3, 0));
            due("to an empty row", 0, x.shift(0, 5, 2, 0, 0));
            Boundary.itemsAre(x, 0, 1, 2, 3, 4, 5);
            Boundary.itemsAre(x, 5, 11, 12, 13);
        });
        test("41: n items: 60", () -> {
            BellsThatEat x = new BellsThatEat();
            x.tape(0, LONGS, 60);
            x.tape(1, LONGS, 60);
            for (int i = 0; i < 60; i++) {
                x.item(0, i, i * 7L);
            }
            due("shift", 60, x.shift(0, 0, 1, 0, 60));
            for (int i = 0; i < 60; i++) {
                due("read " + i, i * 7L, x.read(1, i));
            }
        });
        test("41: (or the same), as they all were before: on, back, in place", () -> {
            BellsThatEat x = twoRows();
            due("on by one", 4, x.shift(0, 0, 0, 1, 4));
            Boundary.itemsAre(x, 0, 1, 1, 2, 3, 4);
            due("back by two", 3, x.shift(0, 2, 0, 0, 3));
            Boundary.itemsAre(x, 0, 2, 3, 4, 3, 4);
            due("in place", 5, x.shift(0, 0, 0, 0, 5));
            Boundary.itemsAre(x, 0, 2, 3, 4, 3, 4);
        });
        test("41: of each sort", () -> {
            for (int sort = BYTES; sort <= BOOLEANS; sort++) {
                BellsThatEat x = new BellsThatEat();
                Boundary.items(x, 3, sort, 0, 1, 1);
                x.tape(4, sort, 2);
                due("shift", 2, x.shift(3, 1, 4, 0, 2));
                Boundary.itemsAre(x, 4, 1, 1);
            }
        });
    }

    private static void refusedShift(String call, long want, Boundary.Call shift) {
        Boundary.refused(() -> {
            BellsThatEat x = Boundary.rich();
            Boundary.items(x, 0, INTS, 1, 2, 3, 4);
            Boundary.items(x, 5, INTS, 11, 12, 13);
            Boundary.items(x, 1, SHORTS, 21, 22, 23);
            return x;
        }, call, want, shift);
    }

    private static void shiftRefused() {
        test("41: NONE: tapes: either, too small, too large", () -> {
            for (int tape : OUT_OF_TAPES) {
                refusedShift("tape " + tape, NONE, x -> x.shift(tape, 0, 5, 0, 1));
                refusedShift("other " + tape, NONE, x -> x.shift(0, 0, tape, 0, 1));
            }
        });
        test("41: NOTHING: either, and both", () -> {
            refusedShift("from", NOTHING, x -> x.shift(2, 0, 5, 0, 1));
            refusedShift("to", NOTHING, x -> x.shift(0, 0, 2, 0, 1));
            refusedShift("both", NOTHING, x -> x.shift(2, 0, 4, 0, 1));
            refusedShift("itself", NOTHING, x -> x.shift(2, 0, 2, 0, 0));
            refusedShift("none of it", NOTHING, x -> x.shift(0, 0, 2, 0, 0));
        });
        test("41: CAST: of unlike sorts: each of each", () -> {
            for (int sort = BYTES; sort <= BOOLEANS; sort++) {
                for (int other = BYTES; other <= BOOLEANS; other++) {
                    BellsThatEat x = new BellsThatEat();
                    x.tape(0, sort, 2);
                    x.tape(1, other, 2);
                    due("sorts " + sort + ", " + other, sort == other ? 1 : CAST, x.shift(0, 0, 1, 0, 1));
                }
            }
            refusedShift("none of it", CAST, x -> x.shift(0, 0, 1, 0, 0));
        });
        test("41: PLACE: n is below 0", () -> {
            refusedShift("n -1", PLACE, x -> x.shift(0, 1, 5, 1, -1));
            refusedShift("n the least", PLACE, x -> x.shift(0, 1, 5, 1, MIN));
        });
        test("41: PLACE: i or j is below 0", () -> {
            refusedShift("i -1", PLACE, x -> x.shift(0, -1, 5, 0, 1));
            refusedShift("j -1", PLACE, x -> x.shift(0, 0, 5, -1, 1));
            refusedShift("i -1, none", PLACE, x -> x.shift(0, -1, 5, 0, 0));
            refusedShift("j -1, none", PLACE, x -> x.shift(0, 0, 5, -1, 0));
            refusedShift("i the least", PLACE, x -> x.shift(0, MIN, 5, 0, 1));
            refusedShift("j the least", PLACE, x -> x.shift(0, 0, 5, MIN, 1));
        });
        test("41: PLACE: beyond the end of the one", () -> {
            refusedShift("i 4", PLACE, x -> x.shift(0, 4, 5, 0, 1));
            refusedShift("i 5, none", PLACE, x -> x.shift(0, 5, 5, 0, 0));
            refusedShift("i 3, two", PLACE, x -> x.shift(0, 3, 5, 0, 2));
            refusedShift("i 2, three", PLACE, x -> x.shift(0, 2, 5, 0, 3));
            refusedShift("i the most", PLACE, x -> x.shift(0, MAX, 5, 0, 1));
        });
        test("41: PLACE: beyond the end of the other", () -> {
            refusedShift("j 3", PLACE, x -> x.shift(0, 0, 5, 3, 1));
            refusedShift("j 4, none", PLACE, x -> x.shift(0, 0, 5, 4, 0));
            refusedShift("j 2, two", PLACE, x -> x.shift(0, 0, 5, 2, 2));
            refusedShift("j 0, four", PLACE, x -> x.shift(0, 0, 5, 0, 4));
            refusedShift("j the most", PLACE, x -> x.shift(0, 0, 5, MAX, 1));
        });
        test("41: PLACE: beyond either's end by n", () -> {
            refusedShift("n 5", PLACE, x -> x.shift(0, 0, 0, 0, 5));
            refusedShift("n the most", PLACE, x -> x.shift(0, 0, 0, 0, MAX));
            refusedShift("i 1, n the most", PLACE, x -> x.shift(0, 1, 0, 1, MAX));
            refusedShift("all the most", PLACE, x -> x.shift(0, MAX, 0, MAX, MAX));
        });
        test("41: NONE ahead of NOTHING, that ahead of CAST, that ahead of PLACE", () -> {
            refusedShift("NONE", NONE, x -> x.shift(2, 0, 6, 0, 1));
            refusedShift("NONE", NONE, x -> x.shift(-1, 0, 2, 0, 1));
            refusedShift("NOTHING", NOTHING, x -> x.shift(0, -1, 2, -1, -1));
            refusedShift("CAST", CAST, x -> x.shift(0, -1, 1, 9, -1));
        });
    }

    private static void calls() {
        test("An object is used for at most 512 calls: the 512th still answers", () -> {
            BellsThatEat x = new BellsThatEat();
            due("bell", 0, x.bell(6, 9, 50));
            for (int call = 2; call < 512; call++) {
                x.act(0, 2, call);
            }
            due("the 512th", 50, x.of(0, 2));
        });
        test("EATEN (99999 at most): what 500 calls can eat is all counted", () -> {
            BellsThatEat x = Boundary.bells(5, 0, 50);
            Boundary.stores(x, 99, 99, 99, 99);
            for (int i = 0; i < 396; i++) {
                due("eats", 50, x.eats(0, i / 99));
            }
            due("EATEN", 396, x.told(1));
        });
    }

    public static void main(String[] args) {
        judge();
        image();
        act();
        trace();
        taken();
        count();
        tape();
        item();
        read();
        shiftMoves();
        shiftRefused();
        calls();
        Boundary.end();
    }
}
