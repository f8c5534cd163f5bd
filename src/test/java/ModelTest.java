import java.util.ArrayList;
import java.util.HashSet;
import java.util.List;
import java.util.Random;
import java.util.Set;

/**
 * Runs of calls by seeded dice, of which each answer is compared with that of a model which is written
 * another way: KINDS are classes, UPLANDS are told by their grammar, all orders and meals are gone through.
 */
public final class ModelTest {
    private static final int RUNS = 700, CALLS = 500;
    private static int wrong;
    private static int checks;

    // ---- the grammar: stacks of what is still to come

    private static List<String[]> rules(String sign) {
        List<String[]> to = new ArrayList<>();
        char what = sign.charAt(0);
        int n = Integer.parseInt(sign.substring(1));
        if (what == 'U') {
            to.add(new String[] {"C0"});
            if (n < 9) {
                to.add(new String[] {"C0", ";", "U" + (n + 1)});
            }
        } else if (what == 'C') {
            to.add(new String[] {"l", "i", "k", "e", "s", " ", "N0", " ", "E0"});
            to.add(new String[] {"l", "o", "a", "t", "h", "e", "s", " ", "N0", " ", "E0"});
            to.add(new String[] {"t", "u", "n", "e", " ", "N0"});
            to.add(new String[] {"g", "r", "o", "w", " ", "N0"});
        } else if (what == 'N') {
            to.add(new String[] {"D0"});
            to.add(new String[] {"D0", "D0"});
        } else if (what == 'E') {
            to.add(new String[] {"T" + n});
            to.add(new String[] {"T" + n, "|", "E" + n});
        } else if (what == 'T') {
            to.add(new String[] {"F" + n});
            to.add(new String[] {"F" + n, "&", "T" + n});
        } else {
            to.add(new String[] {"L0", "S0", "N0"});
            if (n < 4) {
                to.add(new String[] {"!", "F" + (n + 1)});
                to.add(new String[] {"(", "E" + (n + 1), ")"});
            }
        }
        return to;
    }

    private static void spread(List<String> stack, Set<List<String>> into) {
        if (stack.isEmpty() || stack.get(0).length() == 1 || "DLS".indexOf(stack.get(0).charAt(0)) >= 0) {
            into.add(stack);
            return;
        }
        for (String[] rule : rules(stack.get(0))) {
            List<String> next = new ArrayList<>(List.of(rule));
            next.addAll(stack.subList(1, stack.size()));
            spread(next, into);
        }
    }

    private static boolean fits(String top, char c) {
        if (top.length() == 1) {
            return top.charAt(0) == c;
        }
        String some = top.charAt(0) == 'D' ? "0123456789" : top.charAt(0) == 'L' ? "bfkvhd" : "<=>";
        return some.indexOf(c) >= 0;
    }

    /** -1: it is an UPLAND; else the FAULT. */
    private static int fault(String text) {
        Set<List<String>> stacks = new HashSet<>();
        spread(List.of("U0"), stacks);
        for (int p = 0; p < text.length(); p++) {
            Set<List<String>> next = new HashSet<>();
            for (List<String> s : stacks) {
                if (!s.isEmpty() && fits(s.get(0), text.charAt(p))) {
                    spread(s.subList(1, s.size()), next);
                }
            }
            if (next.isEmpty()) {
                return p;
            }
            stacks = next;
        }
        return stacks.contains(List.<String>of()) ? -1 : text.length();
    }

    private static int cut(String e, char sign) {
        int open = 0;
        for (int i = 0; i < e.length(); i++) {
            char c = e.charAt(i);
            open += c == '(' ? 1 : c == ')' ? -1 : 0;
            if (open == 0 && c == sign) {
                return i;
            }
        }
        return -1;
    }

    private static boolean holds(String e, int b, int f, int k, int v, int h, int d) {
        int at = cut(e, '|');
        if (at >= 0) {
            return holds(e.substring(0, at), b, f, k, v, h, d) || holds(e.substring(at + 1), b, f, k, v, h, d);
        }
        at = cut(e, '&');
        if (at >= 0) {
            return holds(e.substring(0, at), b, f, k, v, h, d) && holds(e.substring(at + 1), b, f, k, v, h, d);
        }
        if (e.charAt(0) == '!') {
            return !holds(e.substring(1), b, f, k, v, h, d);
        }
        if (e.charAt(0) == '(') {
            return holds(e.substring(1, e.length() - 1), b, f, k, v, h, d);
        }
        int[] values = {b, f, k, v, h, d};
        int is = values["bfkvhd".indexOf(e.charAt(0))];
        int n = Integer.parseInt(e.substring(2));
        return e.charAt(1) == '<' ? is < n : e.charAt(1) == '=' ? is == n : is > n;
    }

    // ---- the KINDS

    private static class Bell {
        int number, kind, v, fed;
        int[] row = new int[4];
        Bell copy() {
            Bell b = make(kind);
            b.number = number;
            b.v = v;
            b.fed = fed;
            b.row = row.clone();
            return b;
        }
        int hunger(int day) { return 2 + v / 3; }
        int note() { return 50; }
        int fills(int liking) { return liking; }
        int swings(List<Integer> t, int x) { t.add(10); return x + number; }
        int rings(List<Integer> t, int x) { t.add(11); return swings(t, x) - v; }
        int tells(List<Integer> t, int x) { t.add(12); return rings(t, x) * 2; }
    }

    private static class Greedy extends Bell {
        @Override int hunger(int day) { return 2 * super.hunger(day); }
        @Override int note() { return 60 + v; }
        @Override int rings(List<Integer> t, int x) { t.add(20); return super.rings(t, x) ^ 6; }
    }

    private static class Fat extends Bell {
        @Override int hunger(int day) { return 1; }
        @Override int note() { return 80; }
        @Override int swings(List<Integer> t, int x) { t.add(30); return super.swings(t, x * 3); }
    }

    private static class Small extends Bell {
        @Override int hunger(int day) { return super.hunger(day) - 1; }
        @Override int note() { return 30; }
        @Override int fills(int liking) { return liking / 2; }
        @Override int tells(List<Integer> t, int x) { t.add(40); return super.tells(t, x) + rings(t, 1); }
    }

    private static class Cracked extends Greedy {
        @Override int note() { return super.note() - 20; }
        @Override int fills(int liking) { return Math.min(4, super.fills(liking)); }
        @Override int swings(List<Integer> t, int x) { t.add(50); return -super.swings(t, x); }
        @Override int rings(List<Integer> t, int x) { t.add(51); return super.rings(t, x + 1); }
    }

    private static class Plain extends Fat {
        @Override int hunger(int day) { return 0; }
        @Override int note() { return super.note() - v; }
        @Override int fills(int liking) { return 0; }
        @Override int tells(List<Integer> t, int x) { t.add(60); return super.tells(t, x - number); }
    }

    private static class Told extends Small {
        @Override int hunger(int day) { return super.hunger(day) + row[day % 4]; }
        @Override int note() { return super.note() + v; }
        @Override int fills(int liking) { return super.fills(liking) + v; }
        @Override int rings(List<Integer> t, int x) { t.add(70); return super.rings(t, x) + super.swings(t, 2); }
        @Override int swings(List<Integer> t, int x) { t.add(71); return super.swings(t, x) ^ v; }
    }

    private static Bell make(int kind) {
        Bell[] all = {new Bell(), new Greedy(), new Fat(), new Small(), new Cracked(), new Plain(), new Told()};
        Bell bell = all[kind];
        bell.kind = kind;
        return bell;
    }

    private static boolean isOf(Bell bell, int k) {
        boolean[] is = {true, bell instanceof Greedy, bell instanceof Fat, bell instanceof Small,
            bell instanceof Cracked, bell instanceof Plain, bell instanceof Told};
        return is[k];
    }

    // ---- the model

    private static final class Hill {
        List<Bell> bells = new ArrayList<>();
        int[] store = {5, 5, 5, 5};
        int day, eaten;
        String upland = "";
        List<int[]> peal = new ArrayList<>(), seen = new ArrayList<>();
        List<int[]> feeding = new ArrayList<>(), book = new ArrayList<>();

        Hill copy() {
            Hill h = new Hill();
            for (Bell b : bells) {
                h.bells.add(b.copy());
            }
            h.store = store.clone();
            h.day = day;
            h.eaten = eaten;
            h.upland = upland;
            h.peal.addAll(peal);
            h.seen.addAll(seen);
            h.feeding.addAll(feeding);
            h.book.addAll(book);
            return h;
        }

        int last(String word, int without) {
            int n = without;
            for (String clause : upland.split(";")) {
                if (clause.startsWith(word)) {
                    n = Integer.parseInt(clause.substring(5));
                }
            }
            return n;
        }

        int liking(Bell b, int f) {
            int n = 5 * (f + 1);
            for (String clause : upland.split(";")) {
                String[] parts = clause.split(" ");
                if (parts.length == 3 && holds(parts[2], b.number, f, b.kind, b.v, b.fed / 10, day % 10)) {
                    n += Integer.parseInt(parts[1]) * (parts[0].equals("likes") ? 1 : -1);
                }
            }
            return n < 0 ? 0 : n;
        }

        int fills(int b, int f) { return bells.get(b).fills(liking(bells.get(b), f)); }

        boolean inTune(int b) {
            return Math.abs(bells.get(b).fed - bells.get(b).note()) <= last("tune ", 9);
        }

        int bits() {
            int bits = 0;
            for (int b = 0; b < bells.size(); b++) {
                bits += inTune(b) ? 1 << b : 0;
            }
            return bits;
        }

        void feedOne(int b, int f) {
            bells.get(b).fed = Math.min(99, bells.get(b).fed + fills(b, f));
            store[f]--;
            eaten++;
        }

        Hill aDay() {
            for (Bell b : bells) {
                b.fed = Math.max(0, b.fed - b.hunger(day));
            }
            store[day % 4] = Math.min(99, store[day % 4] + last("grow ", 0));
            day++;
            return this;
        }

        Hill behind(int n) {
            Hill h = copy();
            for (int i = 0; i < n; i++) {
                h.aDay();
            }
            return h;
        }

        boolean stroke(int b) {
            boolean good = inTune(b);
            for (Bell each : bells) {
                each.fed = Math.max(0, each.fed - 1);
            }
            return good;
        }
    }

    private static final class Model {
        Hill now = new Hill();
        Hill image;
        String text = "";
        List<String> uplands = new ArrayList<>();
        List<Integer> trace = new ArrayList<>();
        int[] sorts = {-1, -1, -1, -1, -1, -1};
        long[][] tapes = new long[6][];

        boolean noBell(int b) { return b < 0 || b >= now.bells.size(); }
        static boolean out(int n, int from, int to) { return n < from || n > to; }

        int bell(int kind, int v, int fed) {
            if (out(kind, 0, 6)) return -1;
            if (out(v, 0, 9) || out(fed, 0, 99)) return -2;
            if (now.bells.size() == 6) return -4;
            Bell b = make(kind);
            b.v = v;
            b.fed = fed;
            b.number = now.bells.size();
            now.bells.add(b);
            return b.number;
        }

        int of(int bell, int what) {
            if (noBell(bell) || out(what, 0, 6) && out(what, 10, 13)) return -1;
            Bell b = now.bells.get(bell);
            if (what >= 10) return now.fills(bell, what - 10);
            return new int[] {b.kind, b.v, b.fed, b.hunger(now.day), b.note(), Math.abs(b.note() - b.fed),
                now.inTune(bell) ? 1 : 0}[what];
        }

        int fill(int bell, int n) {
            if (noBell(bell)) return -1;
            if (out(n, 0, 99)) return -2;
            int was = now.bells.get(bell).fed;
            now.bells.get(bell).fed = n;
            return was;
        }

        int store(int food, int n) {
            if (out(food, 0, 3)) return -1;
            if (out(n, 0, 99)) return -2;
            int was = now.store[food];
            now.store[food] = n;
            return was;
        }

        int row(int bell, int part, int n) {
            if (noBell(bell) || out(part, 0, 3)) return -1;
            if (out(n, 0, 9)) return -2;
            if (now.bells.get(bell).kind != 6) return -3;
            int was = now.bells.get(bell).row[part];
            now.bells.get(bell).row[part] = n;
            return was;
        }

        int feed(int sign) {
            if (out(sign, 0, 127)) return -2;
            if (text.length() == 100) return -4;
            text += (char) sign;
            return text.length();
        }

        int upland() {
            if (uplands.size() == 6) return -4;
            int fault = fault(text);
            if (fault < 0) {
                uplands.add(text);
                now.upland = text;
            }
            text = "";
            return fault < 0 ? uplands.size() - 1 : -10 - fault;
        }

        int told(int what) {
            if (out(what, 0, 4) && out(what, 10, 13)) return -1;
            if (what >= 10) return now.store[what - 10];
            return new int[] {now.day, now.eaten, now.last("tune ", 9), now.last("grow ", 0), now.bits()}[what];
        }

        int eats(int bell, int food) {
            if (noBell(bell) || out(food, 0, 3)) return -1;
            if (now.store[food] == 0) return -3;
            now.feedOne(bell, food);
            return now.bells.get(bell).fed;
        }

        int pass(int n) {
            if (out(n, 0, 60)) return -2;
            if (now.day + n > 9999) return -3;
            now = now.behind(n);
            return now.day;
        }

        int strike(int bell) { return noBell(bell) ? -1 : now.stroke(bell) ? 1 : 0; }

        int on(int n, int what) {
            boolean ofBell = !out(what, 10, 15) && !noBell(what - 10);
            if (what != 0 && !ofBell && out(what, 20, 23)) return -1;
            if (out(n, 0, 60)) return -2;
            Hill h = now.behind(n);
            return what == 0 ? h.bits() : ofBell ? h.bells.get(what - 10).fed : h.store[what - 20];
        }

        int tuned(int bell, int what) {
            if (noBell(bell) || out(what, 0, 1)) return -1;
            Hill h = now.copy();
            for (int n = 0; n <= 60; n++, h.aDay()) {
                if (h.inTune(bell) == (what == 1)) return n;
            }
            return -5;
        }

        int all() {
            int[] count = new int[61];
            int most = 0;
            Hill h = now.copy();
            for (int n = 0; n <= 60; n++, h.aDay()) {
                count[n] = Integer.bitCount(h.bits());
                most = Math.max(most, count[n]);
            }
            for (int n = 0; n <= 60; n++) {
                if (count[n] == most) return n;
            }
            return -99;
        }

        /** All MEALS, each with FED behind it. */
        List<int[]> meals(int bell) {
            List<int[]> all = new ArrayList<>();
            for (int code = 0; code < 625; code++) {
                int[] m = {code / 125, code / 25 % 5, code / 5 % 5, code % 5, 0};
                boolean is = m[0] + m[1] + m[2] + m[3] <= 4;
                for (int f = 0; f < 4; f++) {
                    is &= m[f] <= now.store[f];
                }
                if (is) {
                    Hill h = now.copy();
                    for (int f = 0; f < 4; f++) {
                        for (int i = 0; i < m[f]; i++) {
                            h.feedOne(bell, f);
                        }
                    }
                    m[4] = h.bells.get(bell).fed;
                    all.add(m);
                }
            }
            return all;
        }

        int meal(int bell, int what) {
            if (noBell(bell) || out(what, 0, 4)) return -1;
            int[] best = null;
            int fewest = 9;
            for (int[] m : meals(bell)) {
                int n = m[0] + m[1] + m[2] + m[3];
                boolean tuned = Math.abs(m[4] - now.bells.get(bell).note()) <= now.last("tune ", 9);
                boolean better = best == null || n < fewest || n == fewest && (m[0] > best[0] || m[0] == best[0]
                    && (m[1] > best[1] || m[1] == best[1] && (m[2] > best[2] || m[2] == best[2] && m[3] > best[3])));
                if (tuned && better) {
                    best = m;
                    fewest = n;
                }
            }
            return best == null ? -5 : what == 0 ? fewest : best[what - 1];
        }

        int came(int bell, int n) {
            if (noBell(bell)) return -1;
            if (out(n, 0, 99)) return -2;
            int ways = 0;
            for (int[] m : meals(bell)) {
                ways += m[4] == n ? 1 : 0;
            }
            return ways;
        }

        int dear(int bell) {
            if (noBell(bell)) return -1;
            int best = 3;
            for (int f = 2; f >= 0; f--) {
                best = now.fills(bell, f) >= now.fills(bell, best) ? f : best;
            }
            return best;
        }

        int[] bestOrder = null;
        int bestGood = -1;

        void orders(List<Integer> order, Hill h, int good) {
            if (order.size() == now.bells.size()) {
                if (good > bestGood) {
                    bestGood = good;
                    bestOrder = new int[order.size()];
                    for (int i = 0; i < bestOrder.length; i++) {
                        bestOrder[i] = order.get(i);
                    }
                }
                return;
            }
            for (int b = 0; b < now.bells.size(); b++) {
                if (!order.contains(b)) {
                    Hill next = h.copy();
                    int more = next.stroke(b) ? 1 : 0;
                    order.add(b);
                    orders(order, next, good + more);
                    order.remove(order.size() - 1);
                }
            }
        }

        int ring(int k) {
            if (out(k, -1, 5)) return -1;
            bestGood = -1;
            orders(new ArrayList<>(), now, 0);
            return k < 0 ? bestGood : k < bestOrder.length ? bestOrder[k] : -5;
        }

        int add(List<int[]> rows, int most, int... row) {
            if (rows.size() == most) return -4;
            rows.add(row);
            return rows.size();
        }

        int clear(List<int[]> rows) {
            rows.clear();
            return 0;
        }

        int peal(int bell) {
            if (bell == -1) return clear(now.peal);
            return noBell(bell) ? -1 : add(now.peal, 10, bell);
        }

        int good(int what) {
            if (out(what, 0, 1)) return -1;
            Hill h = now.copy();
            int good = 0;
            int fails = -5;
            for (int i = 0; i < now.peal.size(); i++) {
                boolean is = h.stroke(now.peal.get(i)[0]);
                good += is ? 1 : 0;
                fails = !is && fails < 0 ? i : fails;
            }
            return what == 0 ? good : fails;
        }

        int towers() {
            int best = -5;
            int least = 999;
            for (int set = 0; set < 1 << now.bells.size(); set++) {
                int in = 0;
                int others = 0;
                for (Bell b : now.bells) {
                    if ((set & 1 << b.number) != 0) {
                        in += b.v;
                    } else {
                        others += b.v;
                    }
                }
                if (set % 2 == 1 && Math.abs(in - others) < least) {
                    least = Math.abs(in - others);
                    best = set;
                }
            }
            return best;
        }

        int see(int bell, int fed, int n) {
            if (bell == -1) return clear(now.seen);
            if (noBell(bell)) return -1;
            return out(fed, 0, 99) || out(n, 0, 30) ? -2 : add(now.seen, 5, bell, fed, n);
        }

        int can(int bell, int what) {
            if (noBell(bell) || out(what, 0, 1)) return -1;
            List<Integer> vs = new ArrayList<>();
            for (int v = 0; v <= 9; v++) {
                Hill h = now.copy();
                h.bells.get(bell).v = v;
                boolean so = true;
                for (int[] s : now.seen) {
                    so &= h.behind(s[2]).bells.get(s[0]).fed == s[1];
                }
                if (so) {
                    vs.add(v);
                }
            }
            return what == 0 ? vs.size() : vs.isEmpty() ? -5 : vs.get(0);
        }

        static long fraction(int above, int below, int part) {
            if (below == 0 || out(part, 0, 1)) return BellsThatEat.NO;
            int a = above;
            int b = below;
            while (b != 0) {
                int rest = a % b;
                a = b;
                b = rest;
            }
            return (part == 0 ? above : below) / a;
        }

        long odds(int bell, int part) {
            if (noBell(bell)) return BellsThatEat.NO;
            int tuned = 0;
            int all = 0;
            for (int f = 0; f < 4; f++) {
                for (int one = 0; one < now.store[f]; one++) {
                    Hill h = now.copy();
                    h.feedOne(bell, f);
                    tuned += h.inTune(bell) ? 1 : 0;
                    all++;
                }
            }
            return fraction(tuned, all, part);
        }

        long mean(int n, int part) {
            if (out(n, 0, 60)) return BellsThatEat.NO;
            int sum = 0;
            for (Bell b : now.behind(n).bells) {
                sum += b.fed;
            }
            return fraction(sum, now.bells.size(), part);
        }

        int feeding(int bell, int food) {
            if (bell == -1) return clear(now.feeding);
            return bell != 6 && (noBell(bell) || out(food, 0, 3)) ? -1 : add(now.feeding, 10, bell, food);
        }

        int gone(int what) {
            if (out(what, 0, 1)) return -1;
            Hill h = now.copy();
            int eaten = 0;
            for (int[] r : now.feeding) {
                if (r[0] == 6) {
                    h.aDay();
                } else if (h.store[r[1]] != 0) {
                    h.feedOne(r[0], r[1]);
                    eaten++;
                }
            }
            return what == 0 ? eaten : h.bits();
        }

        int book(int bell, int fed) {
            if (bell == -1) return clear(now.book);
            if (noBell(bell)) return -1;
            return out(fed, 0, 99) ? -2 : add(now.book, 8, bell, fed);
        }

        int looked() {
            for (int i = 0; i < now.book.size(); i++) {
                if (now.bells.get(now.book.get(i)[0]).fed != now.book.get(i)[1]) return i;
            }
            return -5;
        }

        int judge(int tape, int i) {
            if (out(tape, 0, 5)) return -1;
            if (!out(sorts[tape], 0, 3)) return -12;
            if (now.bells.isEmpty()) return -5;
            if (i < 0 || tapes[tape] == null) return 100;
            for (int b = 0; b < now.bells.size(); b++) {
                if ((long) i + b >= tapes[tape].length) return 100 + b;
                if ((tapes[tape][i + b] == 1) != now.inTune(b)) return b;
            }
            return -5;
        }

        int image() {
            image = now.copy();
            return now.bells.size();
        }

        int undo() {
            if (image == null) return -3;
            now = image.copy();
            return now.bells.size();
        }

        int act(int bell, int act, int x) {
            trace.clear();
            if (noBell(bell) || out(act, 0, 2)) return 0;
            Bell b = now.bells.get(bell);
            return act == 0 ? b.swings(trace, x) : act == 1 ? b.rings(trace, x) : b.tells(trace, x);
        }

        int trace(int i) { return i < 0 || i >= Math.min(20, trace.size()) ? -1 : trace.get(i); }

        int taken(int bell, int k) {
            if (out(k, 0, 6)) return -2;
            if (noBell(bell)) return -11;
            return isOf(now.bells.get(bell), k) ? now.bells.get(bell).kind : -12;
        }

        int count(int what) {
            if (out(what, 0, 7)) return -2;
            return new int[] {now.bells.size(), uplands.size(), now.peal.size(), now.seen.size(),
                now.feeding.size(), now.book.size(), text.length(), trace.size()}[what];
        }

        int tape(int tape, int sort, int n) {
            if (out(tape, 0, 5)) return -1;
            if (out(sort, -1, 4) || sort != -1 && n > 60) return -2;
            if (sort != -1 && n < 0) return -14;
            sorts[tape] = sort;
            tapes[tape] = sort == -1 ? null : new long[n];
            return 1;
        }

        int item(int tape, int i, long v) {
            if (out(tape, 0, 5)) return -1;
            if (tapes[tape] == null) return -11;
            if (out(i, 0, tapes[tape].length - 1)) return -13;
            long[] cut = {v << 56 >> 56, v << 48 >> 48, v << 32 >> 32, v, v == 0 ? 0 : 1};
            tapes[tape][i] = cut[sorts[tape]];
            return 1;
        }

        long read(int tape, int i) {
            boolean is = !out(tape, 0, 5) && tapes[tape] != null && !out(i, 0, tapes[tape].length - 1);
            return is ? tapes[tape][i] : BellsThatEat.NO;
        }

        int shift(int tape, int i, int other, int j, int n) {
            if (out(tape, 0, 5) || out(other, 0, 5)) return -1;
            if (tapes[tape] == null || tapes[other] == null) return -11;
            if (sorts[tape] != sorts[other]) return -12;
            boolean is = n >= 0 && i >= 0 && j >= 0 && (long) i + n <= tapes[tape].length
                && (long) j + n <= tapes[other].length;
            if (!is) return -13;
            long[] were = tapes[tape].clone();
            for (int k = 0; k < n; k++) {
                tapes[other][j + k] = were[i + k];
            }
            return n;
        }
    }

    // ---- the dice

    private static Random dice;

    private static int any(int n) { return dice.nextInt(n); }

    /** Mostly from .. to, sometimes a bit or far beyond. */
    private static int about(int from, int to) {
        int how = any(40);
        if (how == 0) return from - 1 - any(2);
        if (how == 1) return to + 1 + any(2);
        if (how == 2 && any(3) == 0) return any(2) == 0 ? Integer.MIN_VALUE : Integer.MAX_VALUE;
        return from + any(to - from + 1);
    }

    private static String e(int depth) {
        StringBuilder s = new StringBuilder();
        int how = any(depth > 0 ? 8 : 4);
        if (how < 4) {
            return s.append("bfkvhd".charAt(any(6))).append("<=>".charAt(any(3)))
                .append(any(9) == 0 ? any(100) : any(7)).toString();
        }
        if (how == 4) return s.append('!').append(any(2) == 0 ? "" : "!").append(e(0)).toString();
        if (how == 5) return s.append(any(2) == 0 ? "(" : "!(").append(e(depth - 1)).append(')').toString();
        return s.append(e(depth - 1)).append(how == 6 ? '&' : '|').append(e(depth - 1)).toString();
    }

    private static String text() {
        StringBuilder s = new StringBuilder();
        int clauses = any(30) == 0 ? 11 : 1 + any(5);
        for (int c = 0; c < clauses; c++) {
            s.append(c == 0 ? "" : ";");
            int how = clauses > 9 ? 2 + any(2) : any(6);
            if (how == 2) {
                s.append("tune ").append(any(60));
            } else if (how == 3) {
                s.append("grow ").append(any(9));
            } else {
                s.append(how % 2 == 0 ? "likes " : "loathes ").append(any(30)).append(' ').append(e(any(5)));
            }
        }
        if (any(4) == 0) {
            int at = any(s.length());
            String signs = "bfkvhd<=>!&|();  01239likestunegrow";
            char sign = signs.charAt(any(signs.length()));
            int how = any(4);
            if (how == 0) {
                s.setLength(at);
            } else if (how == 1) {
                s.deleteCharAt(at);
            } else if (how == 2) {
                s.insert(at, sign);
            } else {
                s.setCharAt(at, sign);
            }
        }
        return s.toString();
    }

    private static void due(int run, int call, String what, long want, long got) {
        checks++;
        if (want != got) {
            wrong++;
            if (wrong < 20) {
                System.out.println("run " + run + ", call " + call + ": " + what + " answered " + got + ", due is " + want);
            }
        }
    }

    private static int oneCall(int run, int call, BellsThatEat x, Model m) {
        int b = about(0, 5);
        int f = about(0, 3);
        int n = about(0, 60);
        int fed = any(5) == 0 && b >= 0 && b < 6 ? Math.max(0, m.of(b, 2)) : about(0, 99);
        int t = about(0, 5);
        int i = any(3) == 0 ? about(0, 59) : about(0, 6);
        int j = any(3) == 0 ? about(0, 59) : about(0, 6);
        switch (any(48)) {
            case 0: case 1: int k = about(0, 6); int v = about(0, 9);
                due(run, call, "bell " + k + " " + v + " " + fed, m.bell(k, v, fed), x.bell(k, v, fed)); return 1;
            case 2: case 3: int w = any(2) == 0 ? about(0, 6) : about(10, 13);
                due(run, call, "of " + b + " " + w, m.of(b, w), x.of(b, w)); return 1;
            case 4: case 5: due(run, call, "fill " + b + " " + fed, m.fill(b, fed), x.fill(b, fed)); return 1;
            case 6: int s = any(3) == 0 ? about(0, 99) : any(4);
                due(run, call, "store " + f + " " + s, m.store(f, s), x.store(f, s)); return 1;
            case 7: int r = about(0, 9);
                due(run, call, "row " + b + " " + f + " " + r, m.row(b, f, r), x.row(b, f, r)); return 1;
            case 8: int sign = about(0, 127);
                if (any(3) == 0) due(run, call, "feed " + sign, m.feed(sign), x.feed(sign)); return 1;
            case 9: if (any(2) == 0) due(run, call, "upland", m.upland(), x.upland()); return 1;
            case 10: String text = text();
                if (any(2) == 0 || call + text.length() > CALLS) return 0;
                for (int p = 0; p < text.length(); p++) {
                    due(run, call, "feed", m.feed(text.charAt(p)), x.feed(text.charAt(p)));
                }
                String whole = m.text;
                due(run, call, "upland of '" + whole + "'", m.upland(), x.upland());
                return text.length() + 1;
            case 11: int told = any(2) == 0 ? about(0, 4) : about(10, 13);
                due(run, call, "told " + told, m.told(told), x.told(told)); return 1;
            case 12: case 13: due(run, call, "eats " + b + " " + f, m.eats(b, f), x.eats(b, f)); return 1;
            case 14: int days = any(20) == 0 ? n : about(0, 6);
                due(run, call, "pass " + days, m.pass(days), x.pass(days)); return 1;
            case 15: due(run, call, "strike " + b, m.strike(b), x.strike(b)); return 1;
            case 16: int o = any(3) == 0 ? 0 : any(2) == 0 ? about(10, 15) : about(20, 23);
                due(run, call, "on " + n + " " + o, m.on(n, o), x.on(n, o)); return 1;
            case 17: int u = about(0, 1); due(run, call, "tuned " + b + " " + u, m.tuned(b, u), x.tuned(b, u)); return 1;
            case 18: due(run, call, "all", m.all(), x.all()); return 1;
            case 19: case 20: int q = about(0, 4);
                due(run, call, "meal " + b + " " + q, m.meal(b, q), x.meal(b, q)); return 1;
            case 21: due(run, call, "came " + b + " " + fed, m.came(b, fed), x.came(b, fed)); return 1;
            case 22: due(run, call, "dear " + b, m.dear(b), x.dear(b)); return 1;
            case 23: if (any(4) != 0) return 0;
                for (int p = -1; p < 6; p++) due(run, call, "ring " + p, m.ring(p), x.ring(p)); return 7;
            case 24: int p1 = about(-1, 5);
                if (p1 >= 0 || any(3) == 0) due(run, call, "peal " + p1, m.peal(p1), x.peal(p1)); return 1;
            case 25: int g = about(0, 1); due(run, call, "good " + g, m.good(g), x.good(g)); return 1;
            case 26: due(run, call, "towers", m.towers(), x.towers()); return 1;
            case 27: case 28: int sn = any(3) == 0 ? about(0, 30) : any(5);
                int sb = any(3) == 0 ? -1 : b;
                int sf = any(3) != 0 && m.on(sn, 10 + b) >= 0 ? m.on(sn, 10 + b) : fed;
                due(run, call, "see " + sb + " " + sf + " " + sn, m.see(sb, sf, sn), x.see(sb, sf, sn)); return 1;
            case 29: case 30: int c = about(0, 1); due(run, call, "can " + b + " " + c, m.can(b, c), x.can(b, c)); return 1;
            case 31: int od = about(0, 1); due(run, call, "odds " + b + " " + od, m.odds(b, od), x.odds(b, od)); return 1;
            case 32: int me = about(0, 1); due(run, call, "mean " + n + " " + me, m.mean(n, me), x.mean(n, me)); return 1;
            case 33: int fb = any(12) == 0 ? -1 : any(3) == 0 ? 6 : b;
                due(run, call, "feeding " + fb + " " + f, m.feeding(fb, f), x.feeding(fb, f)); return 1;
            case 34: int go = about(0, 1); due(run, call, "gone " + go, m.gone(go), x.gone(go)); return 1;
            case 35: int bb = any(9) == 0 ? -1 : b;
                due(run, call, "book " + bb + " " + fed, m.book(bb, fed), x.book(bb, fed)); return 1;
            case 36: due(run, call, "looked", m.looked(), x.looked()); return 1;
            case 37: case 38: due(run, call, "judge " + t + " " + i, m.judge(t, i), x.judge(t, i)); return 1;
            case 39: if (any(2) == 0) due(run, call, "image", m.image(), x.image()); return 1;
            case 40: if (any(2) == 0) due(run, call, "undo", m.undo(), x.undo()); return 1;
            case 41: int a = about(0, 2); int xx = any(2) == 0 ? about(-9, 9) : dice.nextInt();
                due(run, call, "act " + b + " " + a + " " + xx, m.act(b, a, xx), x.act(b, a, xx));
                for (int y = 0; y < 14; y++) due(run, call, "trace " + y, m.trace(y), x.trace(y)); return 15;
            case 42: int tk = about(0, 6); due(run, call, "taken " + b + " " + tk, m.taken(b, tk), x.taken(b, tk)); return 1;
            case 43: int cn = about(0, 7); due(run, call, "count " + cn, m.count(cn), x.count(cn)); return 1;
            case 44: int so = any(2) == 0 ? 4 : about(-1, 4); int len = any(2) == 0 ? about(0, 9) : about(0, 60);
                due(run, call, "tape " + t + " " + so + " " + len, m.tape(t, so, len), x.tape(t, so, len)); return 1;
            case 45: long val = any(2) == 0 ? any(2) : dice.nextLong();
                due(run, call, "item " + t + " " + i + " " + val, m.item(t, i, val), x.item(t, i, val)); return 1;
            case 46: due(run, call, "read " + t + " " + i, m.read(t, i), x.read(t, i)); return 1;
            default: int t2 = about(0, 5); int len2 = about(0, 5);
                due(run, call, "shift " + t + " " + i + " " + t2 + " " + j + " " + len2,
                    m.shift(t, i, t2, j, len2), x.shift(t, i, t2, j, len2)); return 1;
        }
    }

    public static void main(String[] args) {
        for (int run = 0; run < RUNS; run++) {
            dice = new Random(run);
            BellsThatEat x = new BellsThatEat();
            Model m = new Model();
            int first = any(7);
            for (int b = 0; b < first; b++) {
                int kind = any(7);
                int v = any(10);
                int fed = any(100);
                due(run, 0, "bell", m.bell(kind, v, fed), x.bell(kind, v, fed));
            }
            int call = first;
            for (int turn = 0; turn < CALLS && call < CALLS; turn++) {
                call += oneCall(run, call, x, m);
            }
        }
        System.out.println(checks + " answers compared with the model's, " + wrong + " otherwise");
        if (wrong != 0) {
            System.exit(1);
        }
    }
}
