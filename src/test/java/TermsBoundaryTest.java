/** The boundaries that DOC.md's Terms name, up to the STROKE: one sentence, one test. */
public final class TermsBoundaryTest {
    /** A text with each word, sign and step of the grammar, and the lengths at which it could end. */
    private static final String TEXT = "likes 12 (b<1|!f=2)&k>3;loathes 7 v=10|h<9;tune 12;grow 3";
    private static final int[] COULD_END = {19, 23, 37, 38, 42, 49, 50, 57};

    private static void test(String words, Boundary.Calls calls) {
        Boundary.test(words, calls);
    }

    private static void due(String call, long want, long got) {
        Boundary.due(call, want, got);
    }

    private static void fault(String text, int place) {
        due("upland() of '" + text + "'", -10 - place, Boundary.upland(new BellsThatEat(), text));
    }

    private static void whole(String... texts) {
        for (String text : texts) {
            due("upland() of '" + text + "'", 0, Boundary.upland(new BellsThatEat(), text));
        }
    }

    private static void tunes(String text, int tune) {
        due("TUNE of '" + text + "'", tune, Boundary.in(text).told(2));
    }

    private static void grows(String text, int grow) {
        due("GROW of '" + text + "'", grow, Boundary.in(text).told(3));
    }

    /** FILLS of each FOOD, for a BELL of that KIND and v in the UPLAND. */
    private static void fills(String text, int kind, int v, int... want) {
        BellsThatEat x = Boundary.in(text, kind, v, 50);
        for (int food = 0; food < want.length; food++) {
            due("FILLS in '" + text + "' of KIND " + kind + " by FOOD " + food, want[food], x.of(0, 10 + food));
        }
    }

    /** Which E hold for that BELL, v, FED and DAY with a FOOD: told by what is loathed much, so that FILLS is 0. */
    private static void holds(boolean want, int[] bellKindVFedDayFood, String... texts) {
        int[] n = bellKindVFedDayFood;
        for (String e : texts) {
            BellsThatEat x = Boundary.in("loathes 99 " + e);
            for (int b = 0; b < n[0]; b++) {
                x.bell(0, 0, 0);
            }
            x.bell(n[1], n[2], n[3]);
            Boundary.passTo(x, n[4]);
            x.fill(n[0], n[3]);
            due("whether " + e + " holds", want ? 1 : 0, x.of(n[0], 10 + n[5]) == 0 ? 1 : 0);
        }
    }

    private static void hold(int[] bellKindVFedDayFood, String... texts) {
        holds(true, bellKindVFedDayFood, texts);
    }

    private static void fail(int[] bellKindVFedDayFood, String... texts) {
        holds(false, bellKindVFedDayFood, texts);
    }

    private static int[] at(int bell, int kind, int v, int fed, int day, int food) {
        return new int[] {bell, kind, v, fed, day, food};
    }

    private static void hunger(int kind, int... vThenWant) {
        for (int i = 0; i + 1 < vThenWant.length; i += 2) {
            BellsThatEat x = Boundary.bells(kind, vThenWant[i], 50);
            due("HUNGER of KIND " + kind + ", v " + vThenWant[i], vThenWant[i + 1], x.of(0, 3));
        }
    }

    private static void note(int kind, int with0, int with9) {
        BellsThatEat x = Boundary.bells(kind, 0, 50, kind, 9, 50);
        due("NOTE of KIND " + kind + ", v 0", with0, x.of(0, 4));
        due("NOTE of KIND " + kind + ", v 9", with9, x.of(1, 4));
    }

    // ---- numbers

    private static void numbers() {
        test("BELLS 0 .. 5, as they come: six, the first is 0, the last 5", () -> {
            BellsThatEat x = new BellsThatEat();
            for (int b = 0; b <= 5; b++) {
                due("bell", b, x.bell(b, b, b));
            }
            for (int b = 0; b <= 5; b++) {
                due("KIND", b, x.of(b, 0));
            }
        });
        test("are of KINDS: 0 is the least, 6 the most", () -> {
            BellsThatEat x = Boundary.bells(0, 5, 50, 6, 5, 50);
            due("the least", 0, x.of(0, 0));
            due("the most", 6, x.of(1, 0));
        });
        test("a number v (0 .. 9): the least and the most", () -> {
            BellsThatEat x = Boundary.bells(3, 0, 50, 3, 9, 50);
            due("the least", 0, x.of(0, 1));
            due("the most", 9, x.of(1, 1));
        });
        test("FED (0 .. 99): the least and the most", () -> {
            BellsThatEat x = Boundary.bells(3, 4, 0, 3, 4, 99);
            due("the least", 0, x.of(0, 2));
            due("the most", 99, x.of(1, 2));
        });
        test("FOODS 0 .. 3: the first and the last", () -> {
            BellsThatEat x = Boundary.bells(0, 0, 0);
            due("the first", 5, x.eats(0, 0));
            due("the last", 25, x.eats(0, 3));
        });
        test("of each a STORE (0 .. 99): the least and the most", () -> {
            BellsThatEat x = new BellsThatEat();
            due("store", 5, x.store(3, 0));
            due("the least", 0, x.told(13));
            due("store", 0, x.store(3, 99));
            due("the most", 99, x.told(13));
        });
        test("STORE: 5 each at first", () -> {
            for (int food = 0; food < 4; food++) {
                due("STORE", 5, new BellsThatEat().told(10 + food));
            }
        });
        test("DAY: 0 at first", () -> due("DAY", 0, new BellsThatEat().told(0)));
        test("EATEN: 0 at first", () -> due("EATEN", 0, new BellsThatEat().told(1)));
        test("EATEN: how many FOODS were, in all: of each FOOD, by each BELL, to the last in STORE", () -> {
            BellsThatEat x = Boundary.bells(0, 0, 0, 5, 0, 0);
            for (int i = 0; i < 20; i++) {
                x.eats(i % 2, i % 4);
                due("EATEN", i + 1, x.told(1));
            }
            due("there is none", -3, x.eats(0, 0));
            due("EATEN", 20, x.told(1));
        });
    }

    // ---- the text of an UPLAND

    private static void clauses() {
        test("THE TEXT (bytes, 100 at most): one of 100 is an UPLAND", () -> {
            StringBuilder text = new StringBuilder("likes 10 ");
            for (int i = 0; i < 16; i++) {
                text.append("!b=1&");
            }
            text.append("b=12;tune 1");
            due("its bytes", 100, text.length());
            tunes(text.toString(), 1);
        });
        test("CLAUSES, 1 to 10: none are too few", () -> fault("", 0));
        test("CLAUSES, 1 to 10: one is enough", () -> whole("tune 1", "grow 1", "likes 1 b=1", "loathes 1 b=1"));
        test("CLAUSES, 1 to 10: ten are, and all ten hold", () -> {
            String text = "likes 1 b=0;loathes 2 b=0;likes 4 b=0;likes 8 b=0;tune 1;tune 2;tune 3;grow 5;grow 6;likes 16 b=0";
            due("its bytes", 97, text.length());
            fills(text, 0, 0, 32, 37, 42, 47);
            tunes(text, 3);
            grows(text, 6);
            tunes("tune 1;tune 2;tune 3;tune 4;tune 5;tune 6;tune 7;tune 8;tune 1;tune 0", 0);
            grows("tune 1;tune 2;tune 3;tune 4;tune 5;tune 6;tune 7;tune 8;tune 1;grow 9", 9);
        });
        test("CLAUSES, 1 to 10: behind ten a ; is the FAULT", () -> {
            String ten = "tune 1;tune 1;tune 1;tune 1;tune 1;tune 1;tune 1;tune 1;tune 1;tune 1";
            whole(ten);
            fault(ten + ";", 69);
            fault(ten + ";tune 1", 69);
            fault("likes 1 b=0;" + ten, 74);
        });
        test("with ; between: none ahead of the first", () -> fault(";tune 1", 0));
        test("with ; between: none behind the last", () -> {
            fault("tune 1;", 7);
            fault("likes 1 b=1;", 12);
        });
        test("with ; between: no two", () -> fault("tune 1;;tune 1", 7));
        test("with ; between: nothing else", () -> {
            fault("tune 1tune 1", 6);
            fault("tune 1,tune 1", 6);
            fault("tune 12tune 1", 7);
            fault("likes 1 b=1tune 1", 11);
            fault("likes 1 (b=1)tune 1", 13);
            fault("grow 1:grow 1", 6);
        });
        test("likes n E: n and E are there", () -> {
            fault("likes", 5);
            fault("likes b=1", 6);
            fault("likes 5", 7);
            fault("likes 5;tune 1", 7);
            fault("likes 5 ", 8);
            fault("likes 5 ;tune 1", 8);
            whole("likes 5 b=1");
        });
        test("loathes n E: n and E are there", () -> {
            fault("loathes", 7);
            fault("loathes b=1", 8);
            fault("loathes 5", 9);
            fault("loathes 5;tune 1", 9);
            fault("loathes 5 ", 10);
            fault("loathes 5 ;tune 1", 10);
            whole("loathes 5 b=1");
        });
        test("tune n: n is there, and no E", () -> {
            fault("tune", 4);
            fault("tune;tune 1", 4);
            fault("tune ;tune 1", 5);
            fault("tune 5 b=1", 6);
        });
        test("grow n: n is there, and no E", () -> {
            fault("grow", 4);
            fault("grow;grow 1", 4);
            fault("grow ;grow 1", 5);
            fault("grow 5 b=1", 6);
        });
        test("one blank ahead of each part behind the word: none is too few", () -> {
            fault("likes5 b=1", 5);
            fault("likes 5b=1", 7);
            fault("likes 55b=1", 8);
            fault("likes 5(b=1)", 7);
            fault("loathes5 b=1", 7);
            fault("loathes 5b=1", 9);
            fault("tune5", 4);
            fault("grow5", 4);
        });
        test("one blank ahead of each part behind the word: two are too many", () -> {
            fault("likes  5 b=1", 6);
            fault("likes 5  b=1", 8);
            fault("loathes  5 b=1", 8);
            fault("loathes 5  b=1", 10);
            fault("tune  5", 5);
            fault("grow  5", 5);
        });
        test("one blank ahead of each part behind the word: none elsewhere", () -> {
            fault(" tune 5", 0);
            fault("tune 5 ", 6);
            fault("tune 55 ", 7);
            fault("tune 5 5", 6);
            fault("tune 5 ;tune 5", 6);
            fault("tune 5; tune 5", 7);
            fault("likes 5 b =1", 9);
            fault("likes 5 b= 1", 10);
            fault("likes 5 b=1 ", 11);
            fault("likes 5 b=1 &f=1", 11);
            fault("likes 5 b=1& f=1", 12);
            fault("likes 5 b=1| f=1", 12);
            fault("likes 5 ! b=1", 9);
            fault("likes 5 ( b=1)", 9);
            fault("likes 5 (b=1 )", 12);
        });
        test("one blank: of no other sign", () -> {
            fault("likes\t5 b=1", 5);
            fault("likes 5\tb=1", 7);
            fault("tune\n5", 4);
            fault("grow_5", 4);
        });
    }

    private static void digits() {
        test("n 1 or 2 digits: none is too few", () -> {
            fault("likes  b=1", 6);
            fault("loathes  b=1", 8);
            fault("tune ", 5);
            fault("tune -1", 5);
            fault("grow ", 5);
            fault("grow +1", 5);
        });
        test("n 1 or 2 digits: one", () -> {
            fills("likes 9 b=0", 0, 0, 14);
            fills("loathes 4 b=0", 0, 0, 1);
            tunes("tune 8", 8);
            grows("grow 9", 9);
        });
        test("n 1 or 2 digits: two", () -> {
            fills("likes 10 b=0", 0, 0, 15);
            fills("loathes 10 b=0", 0, 0, 0, 0, 5, 10);
            tunes("tune 10", 10);
            grows("grow 10", 10);
        });
        test("n 1 or 2 digits: the least and the most", () -> {
            fills("likes 0 b=0", 0, 0, 5);
            fills("likes 00 b=0", 0, 0, 5);
            fills("likes 99 b=0", 0, 0, 104);
            fills("loathes 0 b=0", 0, 0, 5);
            fills("likes 99 b=0;loathes 99 b=0", 0, 0, 5);
            tunes("tune 0", 0);
            tunes("tune 00", 0);
            tunes("tune 99", 99);
            grows("grow 0", 0);
            grows("grow 99", 99);
        });
        test("n 1 or 2 digits: 0 ahead of another", () -> {
            fills("likes 07 b=0", 0, 0, 12);
            fills("loathes 03 b=0", 0, 0, 2);
            tunes("tune 07", 7);
            grows("grow 07", 7);
        });
        test("n 1 or 2 digits: three are too many", () -> {
            fault("likes 100 b=1", 8);
            fault("loathes 005 b=1", 10);
            fault("tune 100", 7);
            fault("grow 000", 7);
        });
        test("n: 0 and 9 are digits, / and : beside them are none", () -> {
            for (String none : new String[] {"/", ":", "a", "\0", "\177"}) {
                fault("tune " + none, 5);
                fault("tune 0" + none, 6);
                fault("likes " + none + " b=1", 6);
                fault("likes 1 b=" + none, 10);
                fault("likes 1 b=9" + none, 11);
            }
        });
        test("a number (1 or 2 digits): none is too few", () -> {
            fault("likes 5 b=", 10);
            fault("likes 5 b=;tune 1", 10);
            fault("likes 5 b=&f=1", 10);
            fault("likes 5 (b=)", 11);
            fault("likes 5 b=f", 10);
        });
        test("a number (1 or 2 digits): one, two, 0 ahead of another", () ->
            hold(at(3, 0, 9, 50, 0, 0), "b=3", "b=03", "b<4", "b<04", "b<10", "b<99", "v>8", "v>08", "v<10"));
        test("a number (1 or 2 digits): the most is far above", () -> {
            fail(at(3, 0, 9, 99, 9, 3), "b>99", "b=99", "h>10", "h=99", "v=10");
            hold(at(3, 0, 9, 99, 9, 3), "b<99", "h<99", "v<99");
        });
        test("a number (1 or 2 digits): three are too many", () -> {
            fault("likes 5 b=100", 12);
            fault("likes 5 b<000", 12);
            fault("likes 5 (b>001)", 13);
        });
    }

    private static void expressions() {
        test("E: T or T|E: a T stands on each side", () -> {
            fault("likes 5 |b=1", 8);
            fault("likes 5 b=1|", 12);
            fault("likes 5 b=1|;tune 1", 12);
            fault("likes 5 b=1||b=2", 12);
            fault("likes 5 b=1|&b=2", 12);
            fault("likes 5 (b=1|)", 13);
        });
        test("E: T or T|E: as many as there is room for", () -> {
            hold(at(0, 0, 0, 0, 0, 0), "b=1|b=2|b=3|b=4|b=5|b=6|b=7|b=8|b=9|f=1|f=2|f=3|f=4|f=5|f=6|v=1|v=2|v=3|v=4|b=0");
            hold(at(0, 0, 0, 0, 0, 0), "b=0|b=2|b=3|b=4|b=5|b=6|b=7|b=8|b=9|f=1|f=2|f=3|f=4|f=5|f=6|v=1|v=2|v=3|v=4|b=1");
            fail(at(0, 0, 0, 0, 0, 0), "b=1|b=2|b=3|b=4|b=5|b=6|b=7|b=8|b=9|f=1|f=2|f=3|f=4|f=5|f=6|v=1|v=2|v=3|v=4|b=2");
        });
        test("T: F or F&T: an F stands on each side", () -> {
            fault("likes 5 &b=1", 8);
            fault("likes 5 b=1&", 12);
            fault("likes 5 b=1&;tune 1", 12);
            fault("likes 5 b=1&&b=2", 12);
            fault("likes 5 b=1&|b=2", 12);
            fault("likes 5 (b=1&)", 13);
        });
        test("T: F or F&T: as many as there is room for", () -> {
            hold(at(0, 0, 0, 0, 0, 0), "b=0&f=0&k=0&v=0&h=0&d=0&b<1&f<1&k<1&v<1&h<1&d<1&b<2&f<2&k<2&v<2&h<2&d<2&b<3&f<3");
            fail(at(0, 0, 0, 0, 0, 0), "b=0&f=0&k=0&v=0&h=0&d=0&b<1&f<1&k<1&v<1&h<1&d<1&b<2&f<2&k<2&v<2&h<2&d<2&b<3&f>0");
            fail(at(0, 0, 0, 0, 0, 0), "b>0&f=0&k=0&v=0&h=0&d=0&b<1&f<1&k<1&v<1&h<1&d<1&b<2&f<2&k<2&v<2&h<2&d<2&b<3&f=0");
        });
        test("E of T, T of F: & is read within |, on either side of it", () -> {
            hold(at(0, 0, 0, 0, 0, 0), "b=0|b=1&b=2", "b=1&b=2|b=0", "b=0|b=0&b=1");
            fail(at(0, 0, 0, 0, 0, 0), "(b=0|b=1)&b=2", "b=1&(b=2|b=0)", "b=1|b=0&b=2");
        });
        test("F: !F: an F stands behind it, nothing ahead", () -> {
            fault("likes 5 !", 9);
            fault("likes 5 !;tune 1", 9);
            fault("likes 5 !&b=1", 9);
            fault("likes 5 !)", 9);
            fault("likes 5 b!=1", 9);
            fault("likes 5 b=!1", 10);
            fault("likes 5 b=1!", 11);
            fault("likes 5 b=1!b=2", 11);
        });
        test("F: !F: it is of that F alone", () -> {
            hold(at(0, 0, 0, 0, 0, 0), "!b=1|b=0", "!b=0|b=0", "!(b=1&b=0)", "!b=1&b=0");
            fail(at(0, 0, 0, 0, 0, 0), "!b=0&b=0", "!b=1&b=1", "!(b=1|b=0)", "!b=0&b=1");
        });
        test("F: (E): an E stands within, and it is closed", () -> {
            fault("likes 5 (", 9);
            fault("likes 5 ()", 9);
            fault("likes 5 (b=1", 12);
            fault("likes 5 (b=1;tune 1", 12);
            fault("likes 5 (b=11", 13);
            fault("likes 5 ((b=1)", 14);
            fault("likes 5 ((b=1)&", 15);
        });
        test("F: (E): what is not open is not closed", () -> {
            fault("likes 5 )", 8);
            fault("likes 5 b=1)", 11);
            fault("likes 5 (b=1))", 13);
            fault("likes 5 (b=1)(b=2)", 13);
            fault("likes 5 b=1(b=2)", 11);
        });
        test("a TEST: a letter: one of six, of all signs", () -> {
            for (char sign = 0; sign < 128; sign++) {
                String text = "likes 5 " + sign + "=1";
                if ("bfkvhd".indexOf(sign) >= 0) {
                    whole(text);
                } else {
                    fault(text, "(!".indexOf(sign) >= 0 ? 9 : 8);
                }
            }
        });
        test("a TEST: < or = or >: one of three, of all signs", () -> {
            for (char sign = 0; sign < 128; sign++) {
                String text = "likes 5 h" + sign + "1";
                if ("<=>".indexOf(sign) >= 0) {
                    whole(text);
                } else {
                    fault(text, 9);
                }
            }
        });
        test("a TEST: < or = or >: just one of them", () -> {
            fault("likes 5 b1", 9);
            fault("likes 5 b<=1", 10);
            fault("likes 5 b>=1", 10);
            fault("likes 5 b==1", 10);
            fault("likes 5 b=1=1", 11);
        });
        test("a TEST: just one letter", () -> {
            fault("likes 5 =1", 8);
            fault("likes 5 1=1", 8);
            fault("likes 5 bf=1", 9);
        });
    }

    private static void within() {
        test("A ( or ! within 4 others is none: within 3 others each is one", () -> {
            for (int mask = 0; mask < 16; mask++) {
                whole("likes 1 " + opened(4, mask) + "b=1" + closed(4, mask));
            }
        });
        test("A ( or ! within 4 others is none: it is the FAULT there, whatever the four are", () -> {
            for (int mask = 0; mask < 16; mask++) {
                fault("likes 1 " + opened(4, mask) + "!b=1" + closed(4, mask), 12);
                fault("likes 1 " + opened(4, mask) + "(b=1)" + closed(4, mask), 12);
            }
        });
        test("within 4 others: also behind a & or | in there", () -> {
            fault("likes 1 ((((b=1&!b=1))))", 16);
            fault("likes 1 ((((b=1|(b=1)))))", 16);
            fault("likes 1 (((!b=1&!(b=1))))", 17);
            fault("likes 1 !(!(b=1|(b=1)))", 16);
            whole("likes 1 (((!b=1&!b=1)))", "likes 1 (((b=1&(b=1))))", "likes 1 !(!(b=1)&!(b=1))");
        });
        test("within 4 others: one that is closed, or beside, does not count", () -> {
            whole("likes 1 !b=1&!b=1&!b=1&!b=1&!b=1&!b=1", "likes 1 (b=1)|(b=1)|(b=1)|(b=1)|(b=1)|(b=1)",
                "likes 1 ((((b=1))))&!!!!b=1|((((b=1))))", "likes 1 !(!(b=1)&(!b=1))|!!(!b=1)",
                "likes 1 ((((b=1))));likes 1 ((((b=1))))");
        });
        test("within 4 others: what holds four deep", () -> {
            hold(at(0, 0, 0, 0, 0, 0), "!!!!b=0", "((((b=0))))", "!(!(b=0))", "(!(!b=0))", "((!!b=0))", "!((!b=0))");
            fail(at(0, 0, 0, 0, 0, 0), "!!!!b=1", "((((b=1))))", "!(!(b=1))", "(!((b=0)))", "!!!b=0", "!((!b=1))");
        });
    }

    private static String opened(int deep, int mask) {
        StringBuilder s = new StringBuilder();
        for (int i = 0; i < deep; i++) {
            s.append((mask >> i & 1) == 1 ? '(' : '!');
        }
        return s.toString();
    }

    private static String closed(int deep, int mask) {
        StringBuilder s = new StringBuilder();
        for (int i = 0; i < deep; i++) {
            s.append((mask >> i & 1) == 1 ? ")" : "");
        }
        return s.toString();
    }

    private static boolean couldEnd(int length) {
        for (int end : COULD_END) {
            if (end == length) {
                return true;
            }
        }
        return false;
    }

    private static void faults() {
        test("The FAULT: the first byte: of all signs only those of a word begin one", () -> {
            for (char sign = 0; sign < 128; sign++) {
                fault("" + sign, "ltg".indexOf(sign) >= 0 ? 1 : 0);
                fault(sign + "$", "ltg".indexOf(sign) >= 0 ? 1 : 0);
            }
        });
        test("The FAULT: a word up to its first other byte", () -> {
            for (String word : new String[] {"likes ", "loathes ", "tune ", "grow "}) {
                for (int p = 0; p < word.length(); p++) {
                    fault(word.substring(0, p) + "$" + word.substring(p) + "5", p);
                    fault(word.substring(0, p) + Character.toUpperCase(word.charAt(p)) + "$", word.charAt(p) == ' ' ? p + 1 : p);
                }
            }
            fault("loikes 5 b=1", 2);
            fault("liathes 5 b=1", 2);
            fault("grune 5", 2);
        });
        test("The FAULT: the place of the first byte with which none begins so: at each place of a text", () -> {
            whole(TEXT);
            for (int p = 0; p < TEXT.length(); p++) {
                fault(TEXT.substring(0, p) + "$" + TEXT.substring(p + 1), p);
                fault(TEXT.substring(0, p) + "\0" + TEXT.substring(p), p);
                fault(TEXT.substring(0, p) + "\177", p);
            }
            fault(TEXT + "$", TEXT.length());
        });
        test("The FAULT: the first one, whatever comes behind it", () -> {
            fault("tune x;tume 1", 5);
            fault("tume 1;tune x", 2);
            fault("grow 1;tune x;tume", 12);
        });
        test("The FAULT: the end of THE TEXT, if it ends too early: at each place of a text", () -> {
            for (int length = 0; length <= TEXT.length(); length++) {
                if (couldEnd(length)) {
                    whole(TEXT.substring(0, length));
                } else {
                    fault(TEXT.substring(0, length), length);
                }
            }
        });
        test("The FAULT of a full TEXT: its end within a word, ahead of a word", () -> {
            String text = "tune 1;tune 1;tune 1;tune 1;tune 1;likes 1 b=1&b=1&b=1&b=1&b=1&b=1&b=1&b=1&b=1&b=1&b=1&b=1;";
            due("its bytes", 91, text.length());
            for (String end : new String[] {"likes 12 ", "loathes 1", "tune 11;l", "tune 11;t", "tune 11;g", "tune 1;lo",
                "tune 1;gr"}) {
                fault(text + end, 100);
            }
            fault(text + "tune 111;", 98);
            fault(text + "grow 12;;", 99);
            fault(text.replace("b=1;", "b=11;") + "grow 12;", 100);
        });
        test("The FAULT of a full TEXT: its last byte, and its end", () -> {
            String text = "likes 1 ";
            for (int i = 0; i < 22; i++) {
                text += "b=1&";
            }
            due("its bytes", 96, text.length());
            whole(text + "b=11");
            fault(text + "b=1x", 99);
            fault(text + "b=1&", 100);
            fault(text + "b=1|", 100);
            fault(text + "(b=1", 100);
            fault(text + "b=1;", 100);
            fault(text + "b=;t", 98);
        });
    }

    // ---- what the letters stand for

    private static void letters() {
        test("b, the number of the BELL: 0 and 5", () -> {
            hold(at(0, 0, 0, 50, 0, 1), "b=0", "b<1", "!b>0");
            fail(at(0, 0, 0, 50, 0, 1), "b=1", "b<0", "b>0");
            hold(at(5, 0, 0, 50, 0, 1), "b=5", "b<6", "b>4");
            fail(at(5, 0, 0, 50, 0, 1), "b=4", "b=6", "b<5", "b>5");
        });
        test("a TEST by < 0 holds for none, by > 99 neither, beside others too", () -> {
            for (char letter : "bfkvhd".toCharArray()) {
                fail(at(1, 1, 1, 10, 1, 1), letter + "<0", letter + ">99", letter + "<0&b=1", "b=1&" + letter + "<0");
                hold(at(1, 1, 1, 10, 1, 1), "b=1|" + letter + "<0", letter + "<0|b=1", "!" + letter + "<0",
                    "b=1|" + letter + ">99", letter + ">99|b=1");
            }
        });
        test("f of the FOOD: 0 and 3", () -> {
            hold(at(1, 0, 0, 50, 0, 0), "f=0", "f<1");
            fail(at(1, 0, 0, 50, 0, 0), "f=1", "f<0", "f>0");
            hold(at(1, 0, 0, 50, 0, 3), "f=3", "f<4", "f>2");
            fail(at(1, 0, 0, 50, 0, 3), "f=2", "f=4", "f<3", "f>3");
        });
        test("k its KIND: 0 and 6", () -> {
            hold(at(1, 0, 0, 50, 0, 3), "k=0", "k<1");
            fail(at(1, 0, 0, 50, 0, 3), "k=1", "k<0", "k>0");
            hold(at(1, 6, 0, 50, 0, 3), "k=6", "k<7", "k>5");
            fail(at(1, 6, 0, 50, 0, 3), "k=5", "k=3", "k=0", "k=7", "k<6", "k>6");
            hold(at(1, 4, 0, 50, 0, 3), "k=4", "k<5", "k>3");
            fail(at(1, 4, 0, 50, 0, 3), "k=1", "k=0", "k<4", "k>4");
        });
        test("v its v: 0 and 9", () -> {
            hold(at(1, 0, 0, 50, 0, 3), "v=0", "v<1");
            fail(at(1, 0, 0, 50, 0, 3), "v=1", "v<0", "v>0");
            hold(at(1, 0, 9, 50, 0, 3), "v=9", "v<10", "v>8");
            fail(at(1, 0, 9, 50, 0, 3), "v=8", "v=10", "v<9", "v>9");
        });
        test("h FED by 10 (cut): at 0, 9, 10, 19, 20, 90, 99", () -> {
            hold(at(1, 0, 2, 0, 0, 3), "h=0", "h<1");
            hold(at(1, 0, 2, 9, 0, 3), "h=0", "h<1");
            fail(at(1, 0, 2, 9, 0, 3), "h=1", "h=9", "h>0");
            hold(at(1, 0, 2, 10, 0, 3), "h=1", "h>0", "h<2");
            hold(at(1, 0, 2, 19, 0, 3), "h=1", "h<2");
            hold(at(1, 0, 2, 20, 0, 3), "h=2", "h>1");
            hold(at(1, 0, 2, 90, 0, 3), "h=9", "h>8");
            hold(at(1, 0, 2, 99, 0, 3), "h=9", "h>8", "h<10");
            fail(at(1, 0, 2, 99, 0, 3), "h=10", "h>9", "h<9");
        });
        test("d DAY modulo 10: at 0, 9, 10, 19, 9999", () -> {
            hold(at(0, 0, 0, 50, 0, 3), "d=0", "d<1");
            hold(at(0, 0, 0, 50, 9, 3), "d=9", "d>8", "d<10");
            hold(at(0, 0, 0, 50, 10, 3), "d=0", "d<1");
            fail(at(0, 0, 0, 50, 10, 3), "d=10", "d>0", "d=1");
            hold(at(0, 0, 0, 50, 19, 3), "d=9");
            fail(at(0, 0, 0, 50, 19, 3), "d=19", "d=1", "d>9");
            hold(at(0, 0, 0, 50, 9999, 3), "d=9");
            fail(at(0, 0, 0, 50, 9999, 3), "d=99", "d>9");
        });
        test("h and FED go together: once one is FED more, another FILLS", () -> {
            BellsThatEat x = Boundary.in("likes 30 h=0", 0, 0, 4);
            due("FILLS", 35, x.of(0, 10));
            x.fill(0, 9);
            due("FILLS at 9", 35, x.of(0, 10));
            x.fill(0, 10);
            due("FILLS at 10", 5, x.of(0, 10));
        });
    }

    // ---- which UPLAND holds, LIKING, TUNE, GROW

    private static void uplands() {
        test("The newest UPLAND holds: not one ahead of it", () -> {
            BellsThatEat x = Boundary.in("tune 1;grow 2;likes 9 b=0", 0, 0, 50);
            due("upland()", 1, Boundary.upland(x, "likes 1 b=0"));
            due("TUNE", 9, x.told(2));
            due("GROW", 0, x.told(3));
            due("FILLS", 6, x.of(0, 10));
        });
        test("The newest UPLAND holds (6 at most): the sixth does", () -> {
            BellsThatEat x = new BellsThatEat();
            for (int n = 0; n < 6; n++) {
                due("upland()", n, Boundary.upland(x, "tune " + (20 + n)));
                due("TUNE", 20 + n, x.told(2));
                due("UPLANDS", n + 1, x.count(1));
            }
        });
        test("without one there are no CLAUSES", () -> {
            fills("", 0, 0, 5, 10, 15, 20);
            due("TUNE", 9, new BellsThatEat().told(2));
            due("GROW", 0, new BellsThatEat().told(3));
        });
        test("LIKING: the n of all likes whose E holds: of none, one, all", () -> {
            fills("likes 1 b=1;likes 2 b=2", 0, 0, 5, 10, 15, 20);
            fills("likes 1 b=1;likes 2 b=0", 0, 0, 7, 12, 17, 22);
            fills("likes 1 b=0;likes 2 b=0;likes 3 f=3", 0, 0, 8, 13, 18, 26);
        });
        test("LIKING: less those of all loathes: of none, one, all", () -> {
            fills("loathes 1 b=1;loathes 2 b=2", 0, 0, 5, 10, 15, 20);
            fills("loathes 1 b=1;loathes 2 b=0", 0, 0, 3, 8, 13, 18);
            fills("loathes 1 b=0;loathes 2 b=0;loathes 3 f=3", 0, 0, 2, 7, 12, 14);
        });
        test("LIKING (0 at least): just above, just 0, below", () -> {
            fills("loathes 4 b=0", 0, 0, 1);
            fills("loathes 5 b=0", 0, 0, 0);
            fills("loathes 6 b=0", 0, 0, 0);
            fills("loathes 99 b=0;loathes 99 b=0", 0, 0, 0, 0, 0, 0);
        });
        test("LIKING: together (0 at least): not cut on the way", () -> {
            fills("loathes 99 b=0;likes 99 b=0", 0, 0, 5, 10, 15, 20);
            fills("loathes 20 b=0;likes 4 b=0", 0, 0, 0, 0, 0, 4);
        });
        test("LIKING: no most of it is told", () ->
            fills("likes 99 b=0;likes 99 b=0;likes 99 b=0;likes 99 b=0", 0, 0, 401, 406, 411, 416));
        test("TUNE (9 without)", () -> {
            tunes("grow 3", 9);
            tunes("likes 3 b=1", 9);
        });
        test("GROW (0 without)", () -> {
            grows("tune 3", 0);
            grows("likes 3 b=1", 0);
        });
        test("TUNE: the last one's n, be it more or less", () -> {
            tunes("tune 5;tune 7", 7);
            tunes("tune 7;grow 3;tune 5;likes 1 b=0", 5);
            tunes("tune 7;tune 0", 0);
        });
        test("GROW: the last one's n, be it more or less", () -> {
            grows("grow 5;grow 7", 7);
            grows("grow 7;tune 3;grow 5;likes 1 b=0", 5);
            grows("grow 7;grow 0", 0);
        });
    }

    // ---- FILLS, HUNGER, NOTE, OFF, IN TUNE

    private static void kinds() {
        test("FILLS: BELL, GREEDY, FAT: LIKING, at 0 and far up too", () -> {
            for (int kind = 0; kind <= 2; kind++) {
                fills("", kind, 9, 5, 10, 15, 20);
                fills("loathes 15 b=0", kind, 9, 0, 0, 0, 5);
                fills("likes 99 b=0", kind, 9, 104, 109, 114, 119);
            }
        });
        test("FILLS: SMALL: the half of LIKING (cut)", () -> {
            fills("", 3, 9, 2, 5, 7, 10);
            fills("loathes 4 b=0", 3, 9, 0, 3, 5, 8);
            fills("loathes 5 b=0", 3, 9, 0, 2, 5, 7);
            fills("loathes 3 b=0", 3, 9, 1);
            fills("loathes 99 b=0", 3, 9, 0, 0, 0, 0);
        });
        test("FILLS: CRACKED: as GREEDY, but 4 at most: LIKING 3, 4, 5, 0", () -> {
            fills("loathes 2 b=0", 4, 9, 3, 4);
            fills("loathes 1 b=0", 4, 9, 4, 4);
            fills("", 4, 9, 4, 4, 4, 4);
            fills("loathes 5 b=0", 4, 9, 0, 4);
        });
        test("FILLS: PLAIN: 0, whatever LIKING is", () -> {
            fills("", 5, 9, 0, 0, 0, 0);
            fills("likes 99 b=0", 5, 9, 0, 0, 0, 0);
        });
        test("FILLS: TOLD: as SMALL, and v more: v 0 and 9, LIKING 0", () -> {
            fills("", 6, 0, 2, 5, 7, 10);
            fills("", 6, 9, 11, 14, 16, 19);
            fills("loathes 99 b=0", 6, 0, 0, 0, 0, 0);
            fills("loathes 99 b=0", 6, 9, 9, 9, 9, 9);
            fills("loathes 4 b=0", 6, 1, 1);
        });
        test("HUNGER: BELL: 2, and v by 3 (cut)", () -> hunger(0, 0, 2, 1, 2, 2, 2, 3, 3, 4, 3, 5, 3, 6, 4, 7, 4, 8, 4, 9, 5));
        test("HUNGER: GREEDY: twice what BELL has", () -> hunger(1, 0, 4, 2, 4, 3, 6, 5, 6, 6, 8, 8, 8, 9, 10));
        test("HUNGER: FAT: 1", () -> hunger(2, 0, 1, 3, 1, 9, 1));
        test("HUNGER: SMALL: as BELL, 1 less", () -> hunger(3, 0, 1, 2, 1, 3, 2, 8, 3, 9, 4));
        test("HUNGER: CRACKED: as GREEDY", () -> hunger(4, 0, 4, 2, 4, 3, 6, 8, 8, 9, 10));
        test("HUNGER: PLAIN: 0", () -> hunger(5, 0, 0, 3, 0, 9, 0));
        test("HUNGER: TOLD: as SMALL, and its ROW: 0 at first, of each DAY", () -> {
            hunger(6, 0, 1, 2, 1, 3, 2, 9, 4);
            for (int day = 0; day < 8; day++) {
                BellsThatEat x = Boundary.bells(6, 0, 90);
                Boundary.passTo(x, day);
                due("HUNGER", 1, x.of(0, 3));
            }
        });
        test("HUNGER: TOLD: its ROW (four numbers 0 .. 9): the least and the most", () -> {
            BellsThatEat x = Boundary.bells(6, 9, 90, 6, 0, 90);
            x.row(0, 0, 9);
            x.row(1, 0, 9);
            due("HUNGER", 13, x.of(0, 3));
            due("HUNGER", 10, x.of(1, 3));
            x.row(0, 0, 0);
            due("HUNGER", 4, x.of(0, 3));
        });
        test("HUNGER: TOLD: its ROW at DAY modulo 4: DAY 0 .. 9, 9999", () -> {
            BellsThatEat x = Boundary.bells(6, 0, 90);
            for (int part = 0; part < 4; part++) {
                x.row(0, part, 2 * part + 1);
            }
            for (int day = 0; day < 10; day++) {
                Boundary.passTo(x, day);
                due("HUNGER at DAY " + day, 2 + 2 * (day % 4), x.of(0, 3));
            }
            Boundary.passTo(x, 9999);
            due("HUNGER at DAY 9999", 8, x.of(0, 3));
        });
        test("HUNGER: the ROW is of each TOLD one its own, the last BELL's too", () -> {
            BellsThatEat x = Boundary.bells(6, 0, 90, 6, 0, 90, 6, 0, 90, 6, 0, 90, 6, 0, 90, 6, 0, 90);
            for (int b = 0; b < 6; b++) {
                x.row(b, 0, b + 1);
            }
            for (int b = 0; b < 6; b++) {
                due("HUNGER of BELL " + b, b + 2, x.of(b, 3));
            }
            due("the last of the first", 0, x.row(0, 3, 9));
            due("the first of the second", 2, x.row(1, 0, 2));
            due("the last of the last", 0, x.row(5, 3, 9));
        });
        test("NOTE: BELL: 50", () -> note(0, 50, 50));
        test("NOTE: GREEDY: 60 and v", () -> note(1, 60, 69));
        test("NOTE: FAT: 80", () -> note(2, 80, 80));
        test("NOTE: SMALL: 30", () -> note(3, 30, 30));
        test("NOTE: CRACKED: as GREEDY, 20 less", () -> note(4, 40, 49));
        test("NOTE: PLAIN: as FAT, v less", () -> note(5, 80, 71));
        test("NOTE: TOLD: as SMALL, and v", () -> note(6, 30, 39));
        test("OFF: by how much FED is otherwise than NOTE: above, below, not at all", () -> {
            BellsThatEat x = Boundary.bells(0, 0, 50, 0, 0, 51, 0, 0, 49, 0, 0, 0, 0, 0, 99, 2, 0, 0);
            int[] off = {0, 1, 1, 50, 49, 80};
            for (int b = 0; b < 6; b++) {
                due("OFF", off[b], x.of(b, 5));
            }
        });
        test("IN TUNE: OFF is no more than TUNE: as much, one more, on both sides", () -> {
            BellsThatEat x = Boundary.in("tune 7", 0, 0, 57, 0, 0, 58, 0, 0, 43, 0, 0, 42);
            int[] is = {1, 0, 1, 0};
            for (int b = 0; b < 4; b++) {
                due("IN TUNE", is[b], x.of(b, 6));
            }
            due("bits", 5, x.told(4));
        });
        test("IN TUNE: by TUNE 9, there being none", () -> {
            BellsThatEat x = Boundary.bells(0, 0, 59, 0, 0, 60, 0, 0, 41, 0, 0, 40);
            due("bits", 5, x.told(4));
        });
        test("IN TUNE: by TUNE 0 at NOTE alone", () -> {
            BellsThatEat x = Boundary.in("tune 0", 0, 0, 49, 0, 0, 50, 0, 0, 51);
            due("bits", 2, x.told(4));
        });
        test("IN TUNE: by TUNE 99 ever", () -> {
            BellsThatEat x = Boundary.in("tune 99", 2, 0, 0, 3, 0, 99);
            due("bits", 3, x.told(4));
        });
    }

    // ---- what goes

    private static void goings() {
        test("One is FED: STORE of it 1 less, to 0, of no other FOOD", () -> {
            BellsThatEat x = Boundary.bells(0, 0, 0);
            x.store(1, 1);
            due("eats", 10, x.eats(0, 1));
            due("STORE", 0, x.told(11));
            due("STORE of others", 15, x.told(10) + x.told(12) + x.told(13));
        });
        test("One is FED: FED of the BELL FILLS more (99 at most): up to 99, beyond, at 99", () -> {
            BellsThatEat x = Boundary.bells(0, 0, 93, 0, 0, 94, 0, 0, 95, 0, 0, 99);
            due("to 98", 98, x.eats(0, 0));
            due("to 99", 99, x.eats(1, 0));
            due("beyond", 99, x.eats(2, 0));
            due("at 99", 99, x.eats(3, 0));
        });
        test("One is FED (99 at most): by FILLS far above", () -> {
            BellsThatEat x = Boundary.in("likes 99 b=0;likes 99 b=0", 0, 0, 0);
            due("eats", 99, x.eats(0, 0));
        });
        test("One is FED: EATEN 1 more, even where it FILLS nothing or all", () -> {
            BellsThatEat x = Boundary.bells(5, 0, 50, 0, 0, 99);
            due("PLAIN", 50, x.eats(0, 3));
            due("at 99", 99, x.eats(1, 3));
            due("EATEN", 2, x.told(1));
            due("STORE", 3, x.told(13));
        });
        test("One is FED: FED of no other BELL is more", () -> {
            BellsThatEat x = Boundary.bells(0, 0, 50, 0, 0, 50, 0, 0, 50);
            x.eats(1, 3);
            due("the one ahead", 50, x.of(0, 2));
            due("the one behind", 50, x.of(2, 2));
        });
        test("A DAY goes: FED of each is HUNGER less (0 at least): above, just 0, below, at 0", () -> {
            BellsThatEat x = Boundary.bells(0, 0, 3, 0, 0, 2, 0, 0, 1, 0, 0, 0, 1, 9, 9, 2, 0, 99);
            x.pass(1);
            int[] fed = {1, 0, 0, 0, 0, 98};
            for (int b = 0; b < 6; b++) {
                due("FED", fed[b], x.of(b, 2));
            }
        });
        test("A DAY goes: STORE is GROW more (99 at most): below, just 99, beyond, at 99", () -> {
            BellsThatEat x = Boundary.in("grow 2");
            Boundary.stores(x, 96, 97, 98, 99);
            x.pass(4);
            int[] store = {98, 99, 99, 99};
            for (int food = 0; food < 4; food++) {
                due("STORE", store[food], x.told(10 + food));
            }
        });
        test("A DAY goes: STORE (99 at most): by GROW 99 from 0 and from 1", () -> {
            BellsThatEat x = Boundary.in("grow 99");
            Boundary.stores(x, 0, 1);
            x.pass(2);
            due("STORE", 99, x.told(10));
            due("STORE", 99, x.told(11));
        });
        test("A DAY goes: the FOOD that is DAY modulo 4: behind 3 comes 0", () -> {
            BellsThatEat x = Boundary.in("grow 1");
            for (int day = 0; day < 9; day++) {
                int food = day % 4;
                int was = x.told(10 + food);
                int all = x.told(10) + x.told(11) + x.told(12) + x.told(13);
                x.pass(1);
                due("STORE at DAY " + day, was + 1, x.told(10 + food));
                due("all at DAY " + day, all + 1, x.told(10) + x.told(11) + x.told(12) + x.told(13));
            }
        });
        test("A DAY goes: STORE stays without GROW", () -> {
            BellsThatEat x = Boundary.in("tune 3");
            x.pass(60);
            due("STORE", 20, x.told(10) + x.told(11) + x.told(12) + x.told(13));
        });
        test("A DAY goes: HUNGER and GROW ahead of DAY being 1 more", () -> {
            BellsThatEat x = Boundary.in("grow 1", 6, 0, 90);
            x.row(0, 0, 5);
            x.pass(1);
            due("FED", 84, x.of(0, 2));
            due("STORE 0", 6, x.told(10));
            due("STORE 1", 5, x.told(11));
            due("DAY", 1, x.told(0));
        });
        test("A STROKE: it is good, if that BELL is IN TUNE ahead of it, not behind it", () -> {
            BellsThatEat x = Boundary.bells(0, 0, 41);
            due("good, though not IN TUNE behind it", 1, x.strike(0));
            due("IN TUNE", 0, x.of(0, 6));
            x.fill(0, 60);
            due("not good, though IN TUNE behind it", 0, x.strike(0));
            due("IN TUNE", 1, x.of(0, 6));
        });
        test("A STROKE: then FED of all is 1 less (0 at least): at 1, at 0, of all, good or not", () -> {
            BellsThatEat x = Boundary.bells(0, 0, 50, 0, 0, 2, 0, 0, 1, 0, 0, 0, 5, 0, 80, 6, 0, 99);
            due("good", 1, x.strike(0));
            int[] once = {49, 1, 0, 0, 79, 98};
            for (int b = 0; b < 6; b++) {
                due("FED", once[b], x.of(b, 2));
            }
            due("not good", 0, x.strike(1));
            int[] twice = {48, 0, 0, 0, 78, 97};
            for (int b = 0; b < 6; b++) {
                due("FED", twice[b], x.of(b, 2));
            }
        });
        test("A STROKE: STORE, DAY, EATEN stay", () -> {
            BellsThatEat x = Boundary.bells(0, 0, 50);
            x.strike(0);
            due("STORE", 20, x.told(10) + x.told(11) + x.told(12) + x.told(13));
            due("DAY", 0, x.told(0));
            due("EATEN", 0, x.told(1));
        });
    }

    public static void main(String[] args) {
        numbers();
        clauses();
        digits();
        expressions();
        within();
        faults();
        letters();
        uplands();
        kinds();
        goings();
        Boundary.end();
    }
}
