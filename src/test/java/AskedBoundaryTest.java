/** The boundaries that promises 13 to 30 name: what is asked, and what is told by hand for it. One sentence, one test. */
public final class AskedBoundaryTest {
    private static final int NONE = Boundary.NONE, BAD = Boundary.BAD, FULL = Boundary.FULL, NOT_SO = Boundary.NOT_SO;
    private static final long NO = Boundary.NO;
    private static final int MIN = Boundary.MIN, MAX = Boundary.MAX;
    private static final int[] OUT_OF_BELLS = {-1, 5, 6, MIN, MAX};
    /** For calls that take bell -1 for something else. */
    private static final int[] OUT_OF_TOLD_BELLS = {-2, 5, 6, MIN, MAX};
    private static final int[] OUT_OF_DAYS = {-1, 61, MIN, MAX};
    private static final int[] OUT_OF_FED = {-1, 100, MIN, MAX};
    private static final int[] OUT_OF_TWO = {-1, 2, MIN, MAX};

    private static void test(String words, Boundary.Calls calls) {
        Boundary.test(words, calls);
    }

    private static void due(String call, long want, long got) {
        Boundary.due(call, want, got);
    }

    /** A TOLD one with v 0 whose ROW is 1, 2, 3, 4, so that each DAY takes another number from it. */
    private static BellsThatEat lastDay(String text) {
        BellsThatEat x = Boundary.in(text, 6, 0, 50);
        for (int part = 0; part < 4; part++) {
            x.row(0, part, part + 1);
        }
        Boundary.passTo(x, 9999);
        x.fill(0, 50);
        return x;
    }

    private static void on() {
        test("13: ON n DAYS (0 .. 60): 0 is now", () -> {
            BellsThatEat x = Boundary.rich();
            due("bits", x.told(4), x.on(0, 0));
            for (int b = 0; b < 5; b++) {
                due("FED", x.of(b, 2), x.on(0, 10 + b));
            }
            for (int food = 0; food < 4; food++) {
                due("STORE", x.told(10 + food), x.on(0, 20 + food));
            }
        });
        test("13: ON n DAYS (0 .. 60): as when they went, up to 60", () -> {
            for (int days : new int[] {1, 2, 4, 59, 60}) {
                BellsThatEat x = Boundary.rich();
                BellsThatEat y = Boundary.rich();
                y.pass(days);
                due("bits", y.told(4), x.on(days, 0));
                for (int b = 0; b < 5; b++) {
                    due("FED", y.of(b, 2), x.on(days, 10 + b));
                }
                for (int food = 0; food < 4; food++) {
                    due("STORE", y.told(10 + food), x.on(days, 20 + food));
                }
            }
        });
        test("13: ON: DAYS also beyond their most: HUNGER and GROW go on by DAY modulo 4", () -> {
            BellsThatEat x = lastDay("grow 1");
            due("FED behind DAY 9999", 50 - 5, x.on(1, 10));
            due("FED behind DAY 10000", 50 - 5 - 2, x.on(2, 10));
            due("FED behind DAY 10001", 50 - 5 - 2 - 3, x.on(3, 10));
            due("FED behind 60", 0, x.on(60, 10));
            Boundary.stores(x, 0, 0, 0, 0);
            due("STORE 3", 1, x.on(1, 23));
            due("STORE 0", 0, x.on(1, 20));
            due("STORE 0", 1, x.on(2, 20));
            due("STORE 0", 15, x.on(60, 20));
            due("DAY", 9999, x.told(0));
        });
        test("13: what: BELLS 0 .. 5 and FOODS 0 .. 3: the first and the last", () -> {
            BellsThatEat x = Boundary.richWithSix();
            due("FED of BELL 5", 79, x.on(1, 15));
            x.store(3, 77);
            due("STORE of FOOD 3", 77, x.on(1, 23));
            x.store(0, 66);
            due("STORE of FOOD 0", 66, x.on(1, 20));
        });
        test("13: NONE: beside each what that there is", () ->
            Boundary.refused("what", NONE, (x, n) -> x.on(3, n), -1, 1, 9, 15, 16, 19, 24, 25, MIN, MAX));
        test("13: NONE: a BELL behind the last, there being six", () ->
            Boundary.refused(Boundary::richWithSix, "on(3, 16)", NONE, x -> x.on(3, 16)));
        test("13: BAD: n: too small, too large", () -> {
            Boundary.refused("bits, n", BAD, (x, n) -> x.on(n, 0), OUT_OF_DAYS);
            Boundary.refused("BELL, n", BAD, (x, n) -> x.on(n, 10), OUT_OF_DAYS);
            Boundary.refused("FOOD, n", BAD, (x, n) -> x.on(n, 23), OUT_OF_DAYS);
        });
        test("13: NONE ahead of BAD", () -> {
            Boundary.refused("on(61, 1)", NONE, x -> x.on(61, 1));
            Boundary.refused("on(-1, 15)", NONE, x -> x.on(-1, 15));
            Boundary.refused("on(61, 24)", NONE, x -> x.on(61, 24));
        });
        test("13: those IN TUNE of no BELLS: no bits", () -> due("on", 0, new BellsThatEat().on(60, 0)));
        test("13: on changes nothing", () -> {
            Boundary.asked("on(60, 0)", x -> x.on(60, 0));
            Boundary.asked("on(60, 12)", x -> x.on(60, 12));
            Boundary.asked("on(60, 20)", x -> x.on(60, 20));
        });
    }

    private static void tuned() {
        test("14: STAYS (0 .. 60): 0, 1, 59, 60, and -5: not by then", () -> {
            // FAT: 1 a DAY from 99, NOTE 80
            due("0", 0, Boundary.in("tune 18", 2, 0, 99).tuned(0, 0));
            due("1", 1, Boundary.in("tune 0", 2, 0, 80).tuned(0, 0));
            due("59", 59, Boundary.in("tune 39", 2, 0, 99).tuned(0, 0));
            due("60", 60, Boundary.in("tune 40", 2, 0, 99).tuned(0, 0));
            due("61", NOT_SO, Boundary.in("tune 41", 2, 0, 99).tuned(0, 0));
            due("ever", NOT_SO, Boundary.bells(5, 0, 80).tuned(0, 0));
        });
        test("14: COMES (0 .. 60): 0, 1, 59, 60, and -5: not by then", () -> {
            // SMALL with v 0: 1 a DAY, NOTE 30
            BellsThatEat x = Boundary.in("tune 0", 3, 0, 30, 3, 0, 31, 3, 0, 89, 3, 0, 90, 3, 0, 91, 3, 0, 29);
            int[] want = {0, 1, 59, 60, NOT_SO, NOT_SO};
            for (int b = 0; b < 6; b++) {
                due("COMES", want[b], x.tuned(b, 1));
            }
        });
        test("14: STAYS and COMES: it is the first time, be it otherwise behind that", () -> {
            BellsThatEat x = Boundary.in("tune 2", 3, 0, 34);
            due("COMES", 2, x.tuned(0, 1));
            due("STAYS", 0, x.tuned(0, 0));
            x.fill(0, 32);
            due("COMES", 0, x.tuned(0, 1));
            due("STAYS", 5, x.tuned(0, 0));
        });
        test("14: STAYS and COMES: DAYS also beyond their most", () -> {
            BellsThatEat x = lastDay("tune 0");
            x.fill(0, 30 + 5 + 2);
            due("COMES", 2, x.tuned(0, 1));
            x.fill(0, 30);
            due("STAYS", 1, x.tuned(0, 0));
        });
        test("14: NONE: bell: too small, too large", () -> {
            Boundary.refused("STAYS, bell", NONE, (x, n) -> x.tuned(n, 0), OUT_OF_BELLS);
            Boundary.refused("COMES, bell", NONE, (x, n) -> x.tuned(n, 1), OUT_OF_BELLS);
        });
        test("14: NONE: what: too small, too large", () ->
            Boundary.refused("what", NONE, (x, n) -> x.tuned(0, n), OUT_OF_TWO));
        test("14: tuned changes nothing", () -> {
            Boundary.asked("tuned(2, 0)", x -> x.tuned(2, 0));
            Boundary.asked("tuned(2, 1)", x -> x.tuned(2, 1));
        });
    }

    private static void all() {
        test("15: ALL: behind how many DAYS (0 .. 60): 0, 1, 59, 60, and no more", () -> {
            due("0", 0, Boundary.in("tune 0", 3, 0, 30).all());
            due("1", 1, Boundary.in("tune 0", 3, 0, 31).all());
            due("59", 59, Boundary.in("tune 0", 3, 0, 89).all());
            due("60", 60, Boundary.in("tune 0", 3, 0, 90).all());
            due("61", 0, Boundary.in("tune 0", 3, 0, 91).all());
        });
        test("15: ALL: of several the fewest", () -> {
            due("ever", 0, Boundary.bells(5, 0, 80).all());
            due("twice one", 1, Boundary.in("tune 0", 3, 0, 31, 3, 0, 40).all());
            due("from 3 on", 3, Boundary.in("tune 2", 3, 0, 35, 3, 0, 34).all());
        });
        test("15: ALL: most: of more DAYS, but more BELLS", () ->
            due("two, later", 10, Boundary.in("tune 0", 3, 0, 30, 3, 0, 40, 3, 0, 40).all()));
        test("15: ALL: none ever, and no BELLS", () -> {
            due("none", 0, Boundary.bells(0, 0, 0, 5, 0, 0).all());
            due("no BELLS", 0, new BellsThatEat().all());
        });
        test("15: ALL: of six", () -> {
            BellsThatEat x = Boundary.in("tune 0", 3, 0, 35, 3, 0, 35, 3, 0, 35, 3, 0, 35, 3, 0, 35, 3, 0, 35);
            due("all", 5, x.all());
        });
        test("15: ALL: DAYS also beyond their most", () -> {
            BellsThatEat x = lastDay("tune 0");
            x.fill(0, 30 + 5 + 2);
            due("all", 2, x.all());
        });
        test("15: all changes nothing", () -> Boundary.asked("all()", x -> x.all()));
    }

    private static void mealIs(BellsThatEat x, int... want) {
        for (int what = 0; what < want.length; what++) {
            due("meal(0, " + what + ")", want[what], x.meal(0, what));
        }
    }

    private static void meal() {
        test("16: MEAL: 0: it is so already, and none of each FOOD", () ->
            mealIs(Boundary.bells(0, 0, 41), 0, 0, 0, 0, 0));
        test("16: MEAL: -5: none, whatever is asked of it", () ->
            mealIs(Boundary.bells(5, 0, 0), NOT_SO, NOT_SO, NOT_SO, NOT_SO, NOT_SO));
        test("16: MEAL: 4 in all at most: four are not too many", () -> {
            BellsThatEat x = Boundary.in("tune 0", 0, 0, 30);
            Boundary.stores(x, 5, 0, 0, 0);
            mealIs(x, 4, 4, 0, 0, 0);
            x.fill(0, 50 - 5 - 10 - 15 - 20);
            Boundary.stores(x, 1, 1, 1, 1);
            mealIs(x, 4, 1, 1, 1, 1);
        });
        test("16: MEAL: 4 in all at most: five are", () -> {
            BellsThatEat x = Boundary.in("tune 0", 0, 0, 25);
            Boundary.stores(x, 99, 0, 0, 0);
            mealIs(x, NOT_SO, NOT_SO);
            BellsThatEat y = Boundary.in("tune 0", 2, 0, 80 - 5 - 5 - 10 - 15 - 20);
            Boundary.stores(y, 2, 1, 1, 1);
            mealIs(y, NOT_SO, NOT_SO);
        });
        test("16: MEAL: out of STORE: as much as there is, and no more", () -> {
            BellsThatEat x = Boundary.in("tune 0", 0, 0, 10);
            Boundary.stores(x, 4, 4, 4, 2);
            mealIs(x, 2, 0, 0, 0, 2);
            x.store(3, 1);
            mealIs(x, 3, 1, 0, 1, 1);
            x.store(0, 0);
            mealIs(x, 3, 0, 2, 0, 1);
            x.store(3, 0);
            mealIs(x, 3, 0, 1, 2, 0);
            x.store(2, 0);
            mealIs(x, 4, 0, 4, 0, 0);
            x.store(1, 3);
            mealIs(x, NOT_SO);
        });
        test("16: MEAL: out of STORE: there is nothing", () -> {
            BellsThatEat x = Boundary.bells(0, 0, 40);
            Boundary.stores(x, 0, 0, 0, 0);
            mealIs(x, NOT_SO, NOT_SO);
            x.fill(0, 41);
            mealIs(x, 0, 0);
        });
        test("16: MEAL: that with the fewest FOODS, though others have more of FOOD 0", () -> {
            BellsThatEat x = Boundary.in("tune 0", 0, 0, 30);
            mealIs(x, 1, 0, 0, 0, 1);
        });
        test("16: MEAL: of several that with most of FOOD 0", () -> {
            BellsThatEat x = Boundary.in("tune 0", 0, 0, 25);
            mealIs(x, 2, 1, 0, 0, 1);
        });
        test("16: MEAL: of these with most of FOOD 1", () -> {
            // 25 by two of FOODS 1 .. 3: 1 and 2
            BellsThatEat x = Boundary.in("tune 0", 0, 0, 25);
            x.store(0, 0);
            mealIs(x, 2, 0, 1, 1, 0);
            // 40 by three: 0, 2, 3 or 1, 1, 3 or 1, 2, 2
            x = Boundary.in("tune 0", 0, 0, 10);
            x.store(3, 1);
            x.store(0, 0);
            mealIs(x, 3, 0, 2, 0, 1);
        });
        test("16: MEAL: and so on: with most of FOOD 2", () -> {
            BellsThatEat x = Boundary.in("tune 9", 0, 0, 0);
            Boundary.stores(x, 0, 0, 9, 9);
            mealIs(x, 3, 0, 0, 3, 0);
        });
        test("16: MEAL: IN TUNE at the edge of TUNE, not one beside", () -> {
            BellsThatEat x = Boundary.in("tune 4", 0, 0, 26);
            mealIs(x, 1, 0, 0, 0, 1);
            x.fill(0, 34);
            mealIs(x, 1, 0, 0, 1, 0);
            x.fill(0, 25);
            Boundary.stores(x, 0, 0, 0, 1);
            mealIs(x, NOT_SO);
        });
        test("16: MEAL: FED (99 at most) on the way", () -> {
            BellsThatEat x = Boundary.in("tune 19", 2, 0, 60);
            Boundary.stores(x, 0, 0, 0, 3);
            mealIs(x, 1);
            BellsThatEat y = Boundary.in("tune 19;likes 99 b=0", 2, 0, 60);
            mealIs(y, 1, 1);
            BellsThatEat z = Boundary.in("tune 18;likes 99 b=0", 2, 0, 60);
            mealIs(z, NOT_SO);
        });
        test("16: MEAL: one by one: LIKING by how FED it is then", () -> {
            BellsThatEat x = Boundary.in("tune 0;likes 20 h=1", 0, 0, 5);
            // 5, 10, then 25 more by each while FED is 10 .. 19
            Boundary.stores(x, 3, 0, 0, 0);
            mealIs(x, NOT_SO);
            x.fill(0, 15);
            mealIs(x, 3, 3);
        });
        test("16: MEAL: LIKING by DAY, which does not go", () -> {
            BellsThatEat x = Boundary.in("tune 0;likes 5 d=9", 0, 0, 30);
            Boundary.passTo(x, 9999);
            x.fill(0, 30);
            Boundary.stores(x, 2, 0, 0, 0);
            mealIs(x, 2, 2);
        });
        test("16: MEAL: of the last BELL", () -> {
            BellsThatEat x = Boundary.richWithSix();
            x.fill(5, 73);
            due("meal(5, 0)", 1, x.meal(5, 0));
            due("meal(5, 1)", 1, x.meal(5, 1));
        });
        test("16: NONE: bell: too small, too large", () -> {
            Boundary.refused("bell", NONE, (x, n) -> x.meal(n, 0), OUT_OF_BELLS);
            Boundary.refused("bell", NONE, (x, n) -> x.meal(n, 4), OUT_OF_BELLS);
        });
        test("16: NONE: what: too small, too large", () ->
            Boundary.refused("what", NONE, (x, n) -> x.meal(0, n), -1, 5, MIN, MAX));
        test("16: meal changes nothing", () -> {
            Boundary.asked("meal(1, 0)", x -> x.meal(1, 0));
            Boundary.asked("meal(4, 3)", x -> x.meal(4, 3));
        });
    }

    private static void came() {
        test("17: CAME of n (0 .. 99): 0: by no FOOD, or what FILLS nothing", () -> {
            BellsThatEat x = Boundary.in("loathes 5 f=0", 0, 0, 0);
            x.store(0, 2);
            due("came", 3, x.came(0, 0));
            x.fill(0, 1);
            due("came", 0, x.came(0, 0));
        });
        test("17: CAME of n (0 .. 99): 99: at most", () -> {
            BellsThatEat x = Boundary.bells(0, 0, 99);
            due("from 99", 70, x.came(0, 99));
            x.fill(0, 94);
            due("from 94", 69, x.came(0, 99));
            x.fill(0, 93);
            due("from 93", 68, x.came(0, 99));
            due("just 98", 1, x.came(0, 98));
        });
        test("17: CAME: by how many MEALS: none", () -> due("came", 0, Boundary.bells(0, 0, 50).came(0, 51)));
        test("17: CAME: that of no FOODS is one", () -> {
            BellsThatEat x = Boundary.bells(0, 0, 50);
            Boundary.stores(x, 0, 0, 0, 0);
            due("came", 1, x.came(0, 50));
            due("came", 0, x.came(0, 55));
        });
        test("17: CAME: 4 in all at most, out of STORE", () -> {
            BellsThatEat x = Boundary.bells(5, 0, 50);
            due("of five each", 70, x.came(0, 50));
            Boundary.stores(x, 4, 4, 4, 4);
            due("of four each", 70, x.came(0, 50));
            Boundary.stores(x, 3, 4, 4, 4);
            due("of three", 69, x.came(0, 50));
            Boundary.stores(x, 1, 1, 1, 1);
            due("of one each", 16, x.came(0, 50));
            Boundary.stores(x, 99, 0, 0, 0);
            due("of 99 and none", 5, x.came(0, 50));
            Boundary.stores(x, 0, 0, 0, 3);
            due("of three alone", 4, x.came(0, 50));
        });
        test("17: CAME: with all of FOOD 0 first, one by one, then with FOOD 1, and so on", () -> {
            BellsThatEat x = Boundary.in("likes 40 f=1&h=1;likes 30 f=3&h=6", 0, 0, 9);
            Boundary.stores(x, 1, 1, 0, 1);
            due("0, 1, 3", 1, x.came(0, 9 + 5 + 50 + 50 - 15));
            due("0, 1", 1, x.came(0, 9 + 5 + 50));
            due("1, 0", 0, x.came(0, 9 + 10 + 5));
        });
        test("17: NONE: bell: too small, too large", () ->
            Boundary.refused("bell", NONE, (x, n) -> x.came(n, 50), OUT_OF_BELLS));
        test("17: BAD: n: too small, too large", () ->
            Boundary.refused("n", BAD, (x, n) -> x.came(0, n), OUT_OF_FED));
        test("17: NONE ahead of BAD", () -> Boundary.refused("came(5, 100)", NONE, x -> x.came(5, 100)));
        test("17: came changes nothing", () -> Boundary.asked("came(1, 82)", x -> x.came(1, 82)));
    }

    private static void dear() {
        test("18: DEAR: of several the first", () -> {
            due("all alike", 0, Boundary.bells(4, 0, 50).dear(0));
            due("by nothing", 0, Boundary.bells(5, 0, 50).dear(0));
            due("two alike", 1, Boundary.in("likes 10 f=1", 0, 0, 50).dear(0));
            due("the last", 3, Boundary.bells(0, 0, 50).dear(0));
            due("cut alike", 2, Boundary.in("loathes 14 f=3;loathes 14 f=1;loathes 8 f=2", 3, 0, 50).dear(0));
        });
        test("18: DEAR: STORE not looked at", () -> {
            BellsThatEat x = Boundary.bells(0, 0, 50);
            Boundary.stores(x, 9, 0, 0, 0);
            due("of none in STORE", 3, x.dear(0));
        });
        test("18: DEAR: now: by what it FILLS, though FED is 99", () -> {
            BellsThatEat x = Boundary.in("likes 30 f=1&h=9", 0, 0, 99);
            due("at 99", 1, x.dear(0));
            x.fill(0, 89);
            due("at 89", 3, x.dear(0));
        });
        test("18: NONE: too small, too large", () ->
            Boundary.refused("bell", NONE, (x, n) -> x.dear(n), OUT_OF_BELLS));
        test("18: dear changes nothing", () -> Boundary.asked("dear(4)", x -> x.dear(4)));
    }

    private static void rings(BellsThatEat x, int howMany, int... order) {
        due("how many", howMany, x.ring(-1));
        for (int k = 0; k < order.length; k++) {
            due("ring(" + k + ")", order[k], x.ring(k));
        }
        for (int k = order.length; k < 6; k++) {
            due("ring(" + k + ")", NOT_SO, x.ring(k));
        }
    }

    private static void ring() {
        test("19: RING: of no BELLS", () -> rings(new BellsThatEat(), 0));
        test("19: RING: of one, good or not", () -> {
            rings(Boundary.bells(0, 0, 50), 1, 0);
            rings(Boundary.bells(0, 0, 0), 0, 0);
        });
        test("19: RING: of six, all of which are good in one order alone", () ->
            rings(Boundary.in("tune 0", 0, 0, 55, 0, 0, 54, 0, 0, 50, 0, 0, 51, 0, 0, 53, 0, 0, 52), 6, 2, 3, 5, 4, 1, 0));
        test("19: RING: of several the first as a row of numbers", () -> {
            rings(Boundary.bells(0, 0, 50, 0, 0, 50, 0, 0, 50, 0, 0, 50, 0, 0, 50, 0, 0, 50), 6, 0, 1, 2, 3, 4, 5);
            rings(Boundary.bells(0, 0, 0, 0, 0, 0, 0, 0, 0, 0, 0, 0, 0, 0, 0, 0, 0, 0), 0, 0, 1, 2, 3, 4, 5);
            rings(Boundary.bells(0, 0, 59, 0, 0, 60, 0, 0, 59), 3, 0, 1, 2);
            rings(Boundary.bells(0, 0, 61, 0, 0, 60, 0, 0, 59), 3, 2, 1, 0);
        });
        test("19: RING: most, though not all", () ->
            rings(Boundary.bells(0, 0, 41, 0, 0, 41, 0, 0, 60), 2, 0, 1, 2));
        test("19: RING: FED of all is 1 less (0 at least) behind each", () -> {
            rings(Boundary.in("tune 29", 3, 0, 1, 3, 0, 1, 3, 0, 1), 1, 0, 1, 2);
            rings(Boundary.in("tune 30", 3, 0, 0, 3, 0, 1, 3, 0, 2), 3, 0, 1, 2);
            rings(Boundary.in("tune 30", 3, 0, 0, 3, 0, 0, 3, 0, 0), 3, 0, 1, 2);
        });
        test("19: RING: of fewer BELLS than a RING ahead of it had", () -> {
            BellsThatEat x = Boundary.bells(0, 0, 0, 0, 0, 0, 0, 0, 0);
            x.image();
            for (int b = 3; b < 6; b++) {
                x.bell(0, 0, 55);
            }
            rings(x, 3, 0, 1, 2, 3, 4, 5);
            x.undo();
            rings(x, 0, 0, 1, 2);
        });
        test("19: k -1 how many, else the k-th: the last of six", () ->
            due("ring(5)", 5, Boundary.richWithSix().ring(5)));
        test("19: -5: there are fewer", () -> {
            due("the last", 4, Boundary.rich().ring(4));
            due("behind it", NOT_SO, Boundary.rich().ring(5));
        });
        test("19: NONE: k (-1 .. 5): too small, too large", () -> {
            Boundary.refused("k", NONE, (x, n) -> x.ring(n), -2, 6, MIN, MAX);
            Boundary.refused(Boundary::richWithSix, "ring(6)", NONE, x -> x.ring(6));
            Boundary.refused(BellsThatEat::new, "ring(6) of none", NONE, x -> x.ring(6));
        });
        test("19: ring changes nothing", () -> {
            Boundary.asked("ring(-1)", x -> x.ring(-1));
            Boundary.asked("ring(4)", x -> x.ring(4));
        });
    }

    private static BellsThatEat withPeal(int strokes) {
        BellsThatEat x = Boundary.rich();
        x.peal(-1);
        for (int i = 0; i < strokes; i++) {
            due("peal", i + 1, x.peal(i % 5));
        }
        return x;
    }

    private static void peal() {
        test("20: A STROKE comes to the PEAL: how many there are: one, ten", () -> {
            BellsThatEat x = withPeal(10);
            due("count(2)", 10, x.count(2));
        });
        test("20: bell -1: it is empty then, 0: also when it is so, and when it is full", () -> {
            BellsThatEat x = withPeal(10);
            due("peal(-1)", 0, x.peal(-1));
            due("count(2)", 0, x.count(2));
            due("peal(-1)", 0, x.peal(-1));
            due("good", 0, x.good(0));
            due("peal", 1, x.peal(4));
            due("peal(-1) of no BELLS", 0, new BellsThatEat().peal(-1));
        });
        test("20: NONE: too small, too large", () ->
            Boundary.refused("bell", NONE, (x, n) -> x.peal(n), OUT_OF_TOLD_BELLS));
        test("20: FULL: 10", () -> {
            Boundary.refused(() -> withPeal(10), "an eleventh", FULL, x -> x.peal(0));
            due("a tenth", 10, withPeal(9).peal(0));
        });
        test("20: NONE ahead of FULL", () -> Boundary.refused(() -> withPeal(10), "peal(5)", NONE, x -> x.peal(5)));
    }

    private static void good() {
        test("21: GOOD, FAILS of an empty PEAL", () -> {
            BellsThatEat x = Boundary.bells(0, 0, 0);
            due("GOOD", 0, x.good(0));
            due("FAILS", NOT_SO, x.good(1));
        });
        test("21: GOOD: how many: none, all ten", () -> {
            BellsThatEat x = Boundary.bells(0, 0, 0, 0, 0, 50);
            for (int i = 0; i < 10; i++) {
                x.peal(0);
            }
            due("none", 0, x.good(0));
            x.fill(0, 50);
            due("all", 10, x.good(0));
            x.fill(0, 49);
            due("all but the last", 9, x.good(0));
        });
        test("21: FAILS: the number of the first that is not: 0, 9, and -5: none", () -> {
            BellsThatEat x = Boundary.bells(0, 0, 50, 0, 0, 0);
            for (int i = 0; i < 9; i++) {
                x.peal(0);
            }
            due("none", NOT_SO, x.good(1));
            x.peal(1);
            due("the last", 9, x.good(1));
            x.fill(0, 60);
            due("the first", 0, x.good(1));
            due("of ten", 8, x.good(0));
            x.fill(0, 47);
            due("the one behind seven", 7, x.good(1));
        });
        test("21: a STROKE of each, one behind the other: FED is 0 at least", () -> {
            BellsThatEat x = Boundary.in("tune 30", 3, 0, 3);
            for (int i = 0; i < 10; i++) {
                x.peal(0);
            }
            due("GOOD", 10, x.good(0));
            BellsThatEat y = Boundary.in("tune 29", 3, 0, 3);
            for (int i = 0; i < 10; i++) {
                y.peal(0);
            }
            due("GOOD", 3, y.good(0));
            due("FAILS", 3, y.good(1));
        });
        test("21: NONE: too small, too large", () ->
            Boundary.refused("what", NONE, (x, n) -> x.good(n), OUT_OF_TWO));
        test("21: good changes nothing", () -> {
            Boundary.asked("good(0)", x -> x.good(0));
            Boundary.asked("good(1)", x -> x.good(1));
        });
    }

    /** TOWERS of BELLS with these v. */
    private static int towersOf(int... v) {
        BellsThatEat x = new BellsThatEat();
        for (int one : v) {
            x.bell(0, one, 0);
        }
        return x.towers();
    }

    private static void towers() {
        test("22: TOWERS: -5: there are none", () -> due("towers", NOT_SO, new BellsThatEat().towers()));
        test("22: TOWERS: of one: the other tower is empty", () -> {
            due("v 9", 1, towersOf(9));
            due("v 0", 1, towersOf(0));
        });
        test("22: TOWERS: sets in which BELL 0 is: alone, with some, with all but one", () -> {
            due("of 1 alone", 5, towersOf(1, 3, 2));
            due("all but it", 1, towersOf(9, 4, 5));
            due("all but the last", 31, towersOf(1, 2, 2, 2, 2, 9));
        });
        test("22: TOWERS: of several the least as bits", () -> {
            due("all v 0", 1, towersOf(0, 0, 0, 0, 0, 0));
            due("all alike", 7, towersOf(1, 1, 1, 1, 1, 1));
            due("two alike", 1, towersOf(5, 5));
            due("with one or alone", 1, towersOf(5, 5, 5));
            due("with 1 or with 2", 3, towersOf(1, 2, 2, 1));
        });
        test("22: TOWERS: of six, one set alone", () -> {
            due("with the last", 33, towersOf(1, 2, 2, 3, 3, 9));
            due("all but the last", 31, towersOf(1, 2, 2, 2, 2, 9));
            due("all v 9", 7, towersOf(9, 9, 9, 9, 9, 9));
        });
        test("22: TOWERS: apart in either direction", () -> {
            due("lighter", 1, towersOf(1, 2));
            due("heavier", 1, towersOf(2, 1));
            due("4 and 5 rather than 3 and 6", 5, towersOf(3, 5, 1));
        });
        test("22: towers changes nothing", () -> Boundary.asked("towers()", x -> x.towers()));
    }

    private static BellsThatEat withSeen(int rows) {
        BellsThatEat x = Boundary.rich();
        x.see(-1, 0, 0);
        for (int i = 0; i < rows; i++) {
            due("see", i + 1, x.see(i % 5, 50, i));
        }
        return x;
    }

    private static void see() {
        test("23: What is SEEN comes: FED (0 .. 99), n DAYS (0 .. 30): the least and the most", () -> {
            BellsThatEat x = Boundary.bells(5, 0, 99, 5, 0, 0);
            due("see", 1, x.see(0, 99, 30));
            due("see", 2, x.see(1, 0, 0));
            due("all is so", 10, x.can(0, 0));
            x.fill(0, 98);
            due("not at 30", 0, x.can(0, 0));
            x.fill(0, 99);
            x.fill(1, 1);
            due("not at 0", 0, x.can(0, 0));
        });
        test("23: bell -1: none then, 0, whatever the others are: also when there are none, and when it is full", () -> {
            for (int other : new int[] {-1, 0, 100, 31, MIN, MAX}) {
                BellsThatEat x = withSeen(5);
                due("see(-1)", 0, x.see(-1, other, other));
                due("count(3)", 0, x.count(3));
                due("see(-1)", 0, x.see(-1, other, other));
                due("can", 10, x.can(0, 0));
                due("see", 1, x.see(0, 50, 0));
            }
            due("see(-1) of no BELLS", 0, new BellsThatEat().see(-1, 0, 0));
        });
        test("23: NONE: too small, too large", () ->
            Boundary.refused("bell", NONE, (x, n) -> x.see(n, 50, 5), OUT_OF_TOLD_BELLS));
        test("23: BAD: fed: too small, too large", () ->
            Boundary.refused("fed", BAD, (x, n) -> x.see(0, n, 5), OUT_OF_FED));
        test("23: BAD: n: too small, too large", () ->
            Boundary.refused("n", BAD, (x, n) -> x.see(0, 50, n), -1, 31, 60, MIN, MAX));
        test("23: FULL: 5", () -> {
            Boundary.refused(() -> withSeen(5), "a sixth", FULL, x -> x.see(0, 50, 0));
            due("a fifth", 5, withSeen(4).see(0, 50, 0));
        });
        test("23: NONE ahead of BAD, that ahead of FULL", () -> {
            Boundary.refused("see(5, 100, 31)", NONE, x -> x.see(5, 100, 31));
            Boundary.refused(() -> withSeen(5), "see(5, ..)", NONE, x -> x.see(5, 50, 0));
            Boundary.refused(() -> withSeen(5), "see(.., 100, ..)", BAD, x -> x.see(0, 100, 0));
            Boundary.refused(() -> withSeen(5), "see(.., 31)", BAD, x -> x.see(0, 50, 31));
        });
    }

    private static void can() {
        test("24: CAN: of nothing SEEN: all ten, the least is 0", () -> {
            BellsThatEat x = Boundary.bells(0, 5, 50);
            due("how many", 10, x.can(0, 0));
            due("the least", 0, x.can(0, 1));
        });
        test("24: CAN: -5: by none", () -> {
            BellsThatEat x = Boundary.bells(0, 5, 50);
            x.see(0, 50, 1);
            due("how many", 0, x.can(0, 0));
            due("the least", NOT_SO, x.can(0, 1));
        });
        test("24: CAN: numbers v (0 .. 9): the first ones, the last alone", () -> {
            BellsThatEat x = Boundary.bells(0, 5, 50);
            x.see(0, 48, 1);
            due("0 .. 2", 3, x.can(0, 0));
            due("the least", 0, x.can(0, 1));
            x.see(-1, 0, 0);
            x.see(0, 45, 1);
            due("9", 1, x.can(0, 0));
            due("the least", 9, x.can(0, 1));
            x.see(-1, 0, 0);
            x.see(0, 44, 1);
            due("10 would be no v", 0, x.can(0, 0));
        });
        test("24: CAN: n DAYS (0 .. 30): at 30", () -> {
            BellsThatEat x = Boundary.bells(3, 5, 99);
            x.see(0, 69, 30);
            due("1 a DAY", 3, x.can(0, 0));
            due("the least", 0, x.can(0, 1));
        });
        test("24: CAN: FED (0 at least): what has come to 0 is so by several", () -> {
            BellsThatEat x = Boundary.bells(0, 5, 30);
            x.see(0, 0, 10);
            due("3 and more a DAY", 7, x.can(0, 0));
            due("the least", 3, x.can(0, 1));
        });
        test("24: CAN: all of SEEN is so: the first, the last, of five", () -> {
            int[] fed = {50, 47, 44, 41, 38};
            for (int other = 0; other < 5; other++) {
                BellsThatEat x = Boundary.bells(0, 0, 50);
                for (int i = 0; i < 5; i++) {
                    x.see(0, fed[i] + (i == other ? 1 : 0), i);
                }
                due("one is otherwise", 0, x.can(0, 0));
            }
            BellsThatEat x = Boundary.bells(0, 0, 50);
            for (int i = 4; i >= 0; i--) {
                x.see(0, fed[i], i);
            }
            due("all is so", 3, x.can(0, 0));
            due("the least", 3, x.can(0, 1));
        });
        test("24: CAN: all of SEEN is so: of other BELLS too, whose v stay", () -> {
            BellsThatEat x = Boundary.bells(0, 0, 50, 0, 9, 50);
            x.see(0, 48, 1);
            due("of itself", 3, x.can(0, 0));
            due("of the other, by any", 10, x.can(1, 0));
            x.see(1, 45, 1);
            due("of both", 3, x.can(0, 0));
            due("of both", 1, x.can(1, 0));
            x.see(1, 50, 1);
            due("of no v", 0, x.can(0, 0));
        });
        test("24: CAN: from now on, DAYS also beyond their most", () -> {
            BellsThatEat x = lastDay("");
            x.see(0, 45, 1);
            x.see(0, 43, 2);
            due("how many", 3, x.can(0, 0));
            due("the least", 0, x.can(0, 1));
        });
        test("24: CAN: a KIND whose HUNGER has no v: all or none", () -> {
            BellsThatEat x = Boundary.bells(2, 5, 50, 5, 5, 50);
            x.see(0, 40, 10);
            x.see(1, 50, 10);
            due("FAT", 10, x.can(0, 0));
            due("PLAIN", 10, x.can(1, 0));
            x.see(1, 49, 10);
            due("FAT", 0, x.can(0, 0));
            due("PLAIN", 0, x.can(1, 0));
        });
        test("24: NONE: bell: too small, too large", () -> {
            Boundary.refused("how many, bell", NONE, (x, n) -> x.can(n, 0), OUT_OF_BELLS);
            Boundary.refused("the least, bell", NONE, (x, n) -> x.can(n, 1), OUT_OF_BELLS);
        });
        test("24: NONE: what: too small, too large", () ->
            Boundary.refused("what", NONE, (x, n) -> x.can(0, n), OUT_OF_TWO));
        test("24: can changes nothing: the v stays", () -> {
            Boundary.asked("can(2, 0)", x -> x.can(2, 0));
            Boundary.asked("can(0, 1)", x -> x.can(0, 1));
        });
    }

    private static void oddsAre(BellsThatEat x, long above, long below) {
        due("above", above, x.odds(0, 0));
        due("below", below, x.odds(0, 1));
    }

    private static void odds() {
        test("25: ODDS: by none: 0 above 1", () -> oddsAre(Boundary.bells(5, 0, 0), 0, 1));
        test("25: ODDS: by all: 1 above 1", () -> oddsAre(Boundary.bells(5, 0, 80), 1, 1));
        test("25: ODDS: in lowest terms", () -> {
            BellsThatEat x = Boundary.bells(0, 0, 30);
            oddsAre(x, 1, 2);
            Boundary.stores(x, 3, 3, 3, 0);
            oddsAre(x, 1, 3);
            Boundary.stores(x, 99, 99, 99, 99);
            oddsAre(x, 1, 2);
            Boundary.stores(x, 99, 98, 98, 98);
            oddsAre(x, 196, 393);
            Boundary.stores(x, 4, 0, 4, 2);
            oddsAre(x, 3, 5);
        });
        test("25: ODDS: with one out of STORE, each alike likely: not each of four FOODS", () -> {
            BellsThatEat x = Boundary.bells(0, 0, 30);
            Boundary.stores(x, 9, 0, 1, 0);
            oddsAre(x, 1, 10);
        });
        test("25: ODDS: one alone in STORE", () -> {
            BellsThatEat x = Boundary.bells(0, 0, 30);
            Boundary.stores(x, 0, 0, 0, 1);
            oddsAre(x, 1, 1);
            Boundary.stores(x, 1, 0, 0, 0);
            oddsAre(x, 0, 1);
        });
        test("25: ODDS: IN TUNE then, not now; at the edge of TUNE", () -> {
            BellsThatEat x = Boundary.bells(0, 0, 41);
            Boundary.stores(x, 1, 0, 0, 0);
            oddsAre(x, 1, 1);
            Boundary.stores(x, 0, 0, 0, 1);
            oddsAre(x, 0, 1);
            x.fill(0, 39);
            oddsAre(x, 1, 1);
            x.fill(0, 40);
            oddsAre(x, 0, 1);
        });
        test("25: ODDS: FED (99 at most)", () -> {
            oddsAre(Boundary.in("tune 19;likes 99 b=0", 2, 0, 50), 1, 1);
            oddsAre(Boundary.in("tune 18;likes 99 b=0", 2, 0, 50), 0, 1);
        });
        test("25: NO: STORE is empty", () -> {
            BellsThatEat x = Boundary.bells(0, 0, 50);
            Boundary.stores(x, 0, 0, 0, 0);
            oddsAre(x, NO, NO);
        });
        test("25: NO: no such BELL: too small, too large", () -> {
            Boundary.refused("above, bell", NO, (x, n) -> x.odds(n, 0), OUT_OF_BELLS);
            Boundary.refused("below, bell", NO, (x, n) -> x.odds(n, 1), OUT_OF_BELLS);
        });
        test("25: NO: no such part: too small, too large", () ->
            Boundary.refused("part", NO, (x, n) -> x.odds(0, n), OUT_OF_TWO));
        test("25: odds changes nothing", () -> {
            Boundary.asked("odds(1, 0)", x -> x.odds(1, 0));
            Boundary.asked("odds(1, 1)", x -> x.odds(1, 1));
        });
    }

    private static void meanIs(BellsThatEat x, int days, long above, long below) {
        due("above", above, x.mean(days, 0));
        due("below", below, x.mean(days, 1));
    }

    private static void mean() {
        test("26: MEAN of n DAYS (0 .. 60): 0, 59 and 60", () -> {
            BellsThatEat x = Boundary.bells(2, 0, 99, 2, 0, 60);
            meanIs(x, 0, 159, 2);
            meanIs(x, 59, 41, 2);
            meanIs(x, 60, 39, 2);
        });
        test("26: MEAN: in lowest terms: of one, of six, of 0", () -> {
            meanIs(Boundary.bells(5, 0, 99), 60, 99, 1);
            meanIs(Boundary.bells(5, 0, 0), 60, 0, 1);
            meanIs(Boundary.bells(5, 0, 1, 5, 0, 1, 5, 0, 0, 5, 0, 0, 5, 0, 0, 5, 0, 0), 0, 1, 3);
            meanIs(Boundary.bells(5, 0, 99, 5, 0, 99, 5, 0, 99, 5, 0, 99, 5, 0, 99, 5, 0, 99), 0, 99, 1);
            meanIs(Boundary.bells(5, 0, 1, 5, 0, 1, 5, 0, 1, 5, 0, 0, 5, 0, 0, 5, 0, 0), 0, 1, 2);
            meanIs(Boundary.bells(5, 0, 1, 5, 0, 0, 5, 0, 0, 5, 0, 0, 5, 0, 0, 5, 0, 0), 0, 1, 6);
            meanIs(Boundary.bells(5, 0, 2, 5, 0, 0, 5, 0, 0, 5, 0, 0), 0, 1, 2);
        });
        test("26: MEAN: DAYS also beyond their most", () -> {
            BellsThatEat x = lastDay("");
            meanIs(x, 1, 45, 1);
            meanIs(x, 2, 43, 1);
        });
        test("26: NO: there are none", () -> {
            due("above", NO, new BellsThatEat().mean(0, 0));
            due("below", NO, new BellsThatEat().mean(60, 1));
        });
        test("26: NO: no such n: too small, too large", () -> {
            Boundary.refused("above, n", NO, (x, n) -> x.mean(n, 0), OUT_OF_DAYS);
            Boundary.refused("below, n", NO, (x, n) -> x.mean(n, 1), OUT_OF_DAYS);
        });
        test("26: NO: no such part: too small, too large", () ->
            Boundary.refused("part", NO, (x, n) -> x.mean(5, n), OUT_OF_TWO));
        test("26: mean changes nothing", () -> Boundary.asked("mean(60, 0)", x -> x.mean(60, 0)));
    }

    private static BellsThatEat withFeeding(int rows) {
        BellsThatEat x = Boundary.rich();
        x.feeding(-1, 0);
        for (int i = 0; i < rows; i++) {
            due("feeding", i + 1, x.feeding(i % 2 == 0 ? i % 5 : 6, i % 4));
        }
        return x;
    }

    private static void feeding() {
        test("27: A row comes to the FEEDING: how many there are: one, ten", () ->
            due("count(4)", 10, withFeeding(10).count(4)));
        test("27: bell -1: it is empty then, 0, whatever the other is: also when it is so, and when it is full", () -> {
            for (int other : new int[] {-1, 0, 4, MIN, MAX}) {
                BellsThatEat x = withFeeding(10);
                due("feeding(-1)", 0, x.feeding(-1, other));
                due("count(4)", 0, x.count(4));
                due("feeding(-1)", 0, x.feeding(-1, other));
                due("gone", 0, x.gone(0));
                due("feeding", 1, x.feeding(0, 0));
            }
            due("feeding(-1) of no BELLS", 0, new BellsThatEat().feeding(-1, 0));
        });
        test("27: bell 6: a DAY, the food not looked at", () -> {
            for (int other : new int[] {-1, 0, 3, 4, MIN, MAX}) {
                BellsThatEat x = Boundary.bells(0, 0, 61);
                due("feeding", 1, x.feeding(6, other));
                due("it goes", 1, x.gone(1));
                due("EATEN", 0, x.gone(0));
            }
        });
        test("27: bell 6: a DAY also of no BELLS", () -> due("feeding", 1, new BellsThatEat().feeding(6, 0)));
        test("27: NONE: bell: too small, too large", () ->
            Boundary.refused("bell", NONE, (x, n) -> x.feeding(n, 0), -2, 5, 7, MIN, MAX));
        test("27: NONE: food: too small, too large", () ->
            Boundary.refused("food", NONE, (x, n) -> x.feeding(0, n), -1, 4, MIN, MAX));
        test("27: FULL: 10", () -> {
            Boundary.refused(() -> withFeeding(10), "an eleventh", FULL, x -> x.feeding(0, 0));
            Boundary.refused(() -> withFeeding(10), "an eleventh, a DAY", FULL, x -> x.feeding(6, 0));
            due("a tenth", 10, withFeeding(9).feeding(0, 0));
        });
        test("27: NONE ahead of FULL", () -> {
            Boundary.refused(() -> withFeeding(10), "feeding(5, 0)", NONE, x -> x.feeding(5, 0));
            Boundary.refused(() -> withFeeding(10), "feeding(0, 4)", NONE, x -> x.feeding(0, 4));
        });
        test("27: what is not in STORE comes to it all the same", () -> {
            BellsThatEat x = Boundary.bells(0, 0, 50);
            Boundary.stores(x, 0, 0, 0, 0);
            due("feeding", 1, x.feeding(0, 0));
        });
    }

    private static void gone() {
        test("28: GONE of an empty FEEDING: none EATEN, those IN TUNE now", () -> {
            BellsThatEat x = Boundary.bells(0, 0, 50, 0, 0, 41, 0, 0, 0);
            due("EATEN", 0, x.gone(0));
            due("bits", 3, x.gone(1));
        });
        test("28: GONE: FOODS EATEN in it: ten, and not those ahead of it", () -> {
            BellsThatEat x = Boundary.bells(5, 0, 50);
            x.eats(0, 0);
            for (int i = 0; i < 10; i++) {
                x.feeding(0, 1 + i % 2);
            }
            due("EATEN", 10, x.gone(0));
        });
        test("28: GONE: passed over, if there is none in STORE: at once, behind the last", () -> {
            BellsThatEat x = Boundary.bells(0, 0, 30);
            Boundary.stores(x, 2, 0, 0, 0);
            x.feeding(0, 3);
            due("none", 0, x.gone(0));
            due("bits", 0, x.gone(1));
            for (int i = 0; i < 3; i++) {
                x.feeding(0, 0);
            }
            due("two", 2, x.gone(0));
            due("bits at 40", 0, x.gone(1));
            x.store(0, 3);
            due("three", 3, x.gone(0));
            due("bits at 45", 1, x.gone(1));
        });
        test("28: GONE: what GROW brings in it is in STORE then", () -> {
            BellsThatEat x = Boundary.in("grow 1", 5, 0, 50);
            Boundary.stores(x, 0, 0, 0, 0);
            x.feeding(0, 0);
            x.feeding(6, 0);
            x.feeding(0, 0);
            x.feeding(0, 0);
            due("one", 1, x.gone(0));
        });
        test("28: GONE: one behind the other", () -> {
            // FED first, or behind a DAY
            BellsThatEat x = Boundary.in("tune 0;likes 5 h=4", 0, 0, 40);
            x.feeding(0, 0);
            due("FED 50", 1, x.gone(1));
            x.feeding(-1, 0);
            x.feeding(6, 0);
            x.feeding(0, 0);
            due("FED 43", 0, x.gone(1));
        });
        test("28: GONE: FED is 99 at most, 0 at least", () -> {
            BellsThatEat x = Boundary.in("tune 19;likes 99 f=0", 2, 0, 9, 2, 0, 9);
            x.feeding(0, 0);
            due("99", 1, x.gone(1));
            BellsThatEat y = Boundary.in("tune 30", 3, 9, 3);
            y.feeding(6, 0);
            y.feeding(6, 0);
            due("0", 1, y.gone(1));
        });
        test("28: GONE: DAYS also beyond their most", () -> {
            BellsThatEat x = lastDay("tune 0;likes 10 d=0&f=0");
            x.fill(0, 30 + 5 + 2 - 7);
            x.feeding(6, 0);
            x.feeding(0, 0);
            x.feeding(6, 0);
            due("bits", 1, x.gone(1));
            due("EATEN", 1, x.gone(0));
        });
        test("28: NONE: too small, too large", () ->
            Boundary.refused("what", NONE, (x, n) -> x.gone(n), OUT_OF_TWO));
        test("28: gone changes nothing", () -> {
            Boundary.asked("gone(0)", x -> x.gone(0));
            Boundary.asked("gone(1)", x -> x.gone(1));
        });
    }

    private static BellsThatEat withBook(int rows) {
        BellsThatEat x = Boundary.rich();
        x.book(-1, 0);
        for (int i = 0; i < rows; i++) {
            due("book", i + 1, x.book(i % 5, x.of(i % 5, 2)));
        }
        return x;
    }

    private static void book() {
        test("29: A row comes to the BOOK: how many there are: one, eight", () ->
            due("count(5)", 8, withBook(8).count(5)));
        test("29: FED (0 .. 99): the least and the most", () -> {
            BellsThatEat x = Boundary.bells(0, 0, 0, 0, 0, 99);
            due("book", 1, x.book(0, 0));
            due("book", 2, x.book(1, 99));
            due("looked", NOT_SO, x.looked());
        });
        test("29: bell -1: it is empty then, 0, whatever the other is: also when it is so, and when it is full", () -> {
            for (int other : new int[] {-1, 0, 100, MIN, MAX}) {
                BellsThatEat x = withBook(8);
                due("book(-1)", 0, x.book(-1, other));
                due("count(5)", 0, x.count(5));
                due("book(-1)", 0, x.book(-1, other));
                due("looked", NOT_SO, x.looked());
                due("book", 1, x.book(0, 0));
            }
            due("book(-1) of no BELLS", 0, new BellsThatEat().book(-1, 0));
        });
        test("29: NONE: too small, too large", () ->
            Boundary.refused("bell", NONE, (x, n) -> x.book(n, 50), OUT_OF_TOLD_BELLS));
        test("29: BAD: fed: too small, too large", () ->
            Boundary.refused("fed", BAD, (x, n) -> x.book(0, n), OUT_OF_FED));
        test("29: FULL: 8", () -> {
            Boundary.refused(() -> withBook(8), "a ninth", FULL, x -> x.book(0, 0));
            due("an eighth", 8, withBook(7).book(0, 0));
        });
        test("29: NONE ahead of BAD, that ahead of FULL", () -> {
            Boundary.refused("book(5, 100)", NONE, x -> x.book(5, 100));
            Boundary.refused(() -> withBook(8), "book(5, 0)", NONE, x -> x.book(5, 0));
            Boundary.refused(() -> withBook(8), "book(0, 100)", BAD, x -> x.book(0, 100));
        });
    }

    private static void looked() {
        test("30: LOOKED at: an empty BOOK: -5", () -> due("looked", NOT_SO, Boundary.bells(0, 0, 0).looked()));
        test("30: LOOKED at: -5: none", () -> due("looked", NOT_SO, withBook(8).looked()));
        test("30: LOOKED at: the first of these rows by which it is otherwise: 0, 7, of two the first", () -> {
            BellsThatEat x = withBook(7);
            x.book(0, 1);
            due("the last", 7, x.looked());
            x.fill(4, 1);
            due("ahead of it", 4, x.looked());
            x.fill(0, 2);
            due("the first", 0, x.looked());
        });
        test("30: LOOKED at: one more, one less", () -> {
            BellsThatEat x = Boundary.bells(0, 0, 50);
            x.book(0, 50);
            x.fill(0, 51);
            due("one more", 0, x.looked());
            x.fill(0, 49);
            due("one less", 0, x.looked());
            x.fill(0, 50);
            due("so", NOT_SO, x.looked());
        });
        test("30: looked changes nothing", () -> Boundary.asked("looked()", x -> x.looked()));
    }

    public static void main(String[] args) {
        on();
        tuned();
        all();
        meal();
        came();
        dear();
        ring();
        peal();
        good();
        towers();
        see();
        can();
        odds();
        mean();
        feeding();
        gone();
        book();
        looked();
        Boundary.end();
    }
}
