import java.util.Arrays;

/** Bells in an upland that have to be fed. What each call must answer is told in DOC.md. */
public final class BellsThatEat {
    public static final int NONE = -1, BAD = -2, STATE = -3, FULL = -4;
    public static final long NO = Long.MIN_VALUE;

    private static final int NOT_SO = -5, FAULT_BASE = -10;
    private static final int NOTHING = -11, CAST = -12, PLACE = -13, SIZE = -14;

    private static final int MOST_BELLS = 6, FOODS = 4, PARTS = 4, LETTERS = 6;
    private static final int MOST_FED = 99, MOST_STORE = 99, MOST_V = 9, MOST_ROW = 9;
    private static final int MOST_DAY = 9999, MOST_EATEN = 99999;
    private static final int MOST_DAYS = 60, MOST_SEEN_DAYS = 30, MOST_MEAL = 4;
    private static final int MOST_TEXT = 100, MOST_UPLANDS = 6, MOST_CLAUSES = 10;
    private static final int MOST_TAPES = 6, MOST_ITEMS = 60;

    private static final int BELL = 0, GREEDY = 1, FAT = 2, SMALL = 3, CRACKED = 4, PLAIN = 5, TOLD = 6;
    private static final int[] KIND_ABOVE = {-1, BELL, BELL, BELL, GREEDY, FAT, SMALL};
    private static final int MOST_ABOVE = 3;
    private static final int[] FIRST_LIKING = {5, 10, 15, 20};

    /** In the FEEDING this number, which no BELL has, tells a DAY. */
    private static final int DAY_ROW = 6;

    private final Hill now = new Hill();
    /** What is asked goes on here, so that it changes nothing. */
    private final Hill trial = new Hill();
    private final Hill imageHill = new Hill();
    private final Slate slate = new Slate();
    private final Slate imageSlate = new Slate();
    private boolean hasImage;

    private final Reader reader = new Reader();
    private final Upland[] uplands = new Upland[MOST_UPLANDS];
    private int uplandCount;

    private final Meals meals = new Meals();
    private final Acts acts = new Acts();
    /** For each set of BELLS that were struck: how many STROKES of the others can be good. */
    private final int[] mostGood = new int[1 << MOST_BELLS];
    private final Tape[] tapes = new Tape[MOST_TAPES];

    public BellsThatEat() {
        for (int i = 0; i < tapes.length; i++) {
            tapes[i] = new Tape();
        }
        Upland bare = new Upland();
        now.upland = bare;
        trial.upland = bare;
        imageHill.upland = bare;
        Arrays.fill(now.stores, 5);
    }

    // ---- bells, foods, uplands

    public int bell(int kind, int v, int fed) {
        if (!isKind(kind)) {
            return NONE;
        }
        if (!isWithin(v, MOST_V) || !isWithin(fed, MOST_FED)) {
            return BAD;
        }
        if (now.bellCount >= MOST_BELLS) {
            return FULL;
        }
        return now.addBell(kind, v, fed);
    }

    public int of(int bell, int what) {
        if (!isBell(bell)) {
            return NONE;
        }
        int fed = now.fed[bell];
        switch (what) {
            case 0: return now.kinds[bell];
            case 1: return now.vs[bell];
            case 2: return fed;
            case 3: return now.hunger(bell);
            case 4: return now.note(bell);
            case 5: return now.off(bell, fed);
            case 6: return now.isTuned(bell, fed) ? 1 : 0;
            default: return what >= 10 && isFood(what - 10) ? now.fills(bell, what - 10, fed) : NONE;
        }
    }

    public int fill(int bell, int n) {
        if (!isBell(bell)) {
            return NONE;
        }
        if (!isWithin(n, MOST_FED)) {
            return BAD;
        }
        int was = now.fed[bell];
        now.fed[bell] = n;
        return was;
    }

    public int store(int food, int n) {
        if (!isFood(food)) {
            return NONE;
        }
        if (!isWithin(n, MOST_STORE)) {
            return BAD;
        }
        int was = now.stores[food];
        now.stores[food] = n;
        return was;
    }

    public int row(int bell, int part, int n) {
        if (!isBell(bell) || part < 0 || part >= PARTS) {
            return NONE;
        }
        if (!isWithin(n, MOST_ROW)) {
            return BAD;
        }
        if (now.kinds[bell] != TOLD) {
            return STATE;
        }
        int place = bell * PARTS + part;
        int was = now.rows[place];
        now.rows[place] = n;
        return was;
    }

    public int feed(int sign) {
        if (sign < 0 || sign > 127) {
            return BAD;
        }
        return reader.takeIn((byte) sign);
    }

    public int upland() {
        if (uplandCount >= MOST_UPLANDS) {
            return FULL;
        }
        if (uplands[uplandCount] == null) {
            uplands[uplandCount] = new Upland();
        }
        Upland next = uplands[uplandCount];
        boolean whole = reader.readUpland(next);
        reader.length = 0;
        if (!whole) {
            return FAULT_BASE - reader.place;
        }
        now.upland = next;
        uplandCount++;
        return uplandCount - 1;
    }

    public int told(int what) {
        switch (what) {
            case 0: return now.day;
            case 1: return now.eaten;
            case 2: return now.upland.tune;
            case 3: return now.upland.grow;
            case 4: return now.tunedBits();
            default: return what >= 10 && isFood(what - 10) ? now.stores[what - 10] : NONE;
        }
    }

    // ---- eating, days, strokes

    public int eats(int bell, int food) {
        if (!isBell(bell) || !isFood(food)) {
            return NONE;
        }
        if (now.stores[food] == 0) {
            return STATE;
        }
        now.eatOne(bell, food);
        now.eaten = Math.min(now.eaten, MOST_EATEN);
        return now.fed[bell];
    }

    public int pass(int n) {
        if (!isWithin(n, MOST_DAYS)) {
            return BAD;
        }
        if (now.day + n > MOST_DAY) {
            return STATE;
        }
        now.passDays(n);
        return now.day;
    }

    public int strike(int bell) {
        if (!isBell(bell)) {
            return NONE;
        }
        return now.strokeOf(bell) ? 1 : 0;
    }

    public int on(int n, int what) {
        boolean asksBell = what >= 10 && isBell(what - 10);
        boolean asksFood = what >= 20 && isFood(what - 20);
        if (what != 0 && !asksBell && !asksFood) {
            return NONE;
        }
        if (!isWithin(n, MOST_DAYS)) {
            return BAD;
        }
        tryDays(n);
        if (asksBell) {
            return trial.fed[what - 10];
        }
        return asksFood ? trial.stores[what - 20] : trial.tunedBits();
    }

    public int tuned(int bell, int what) {
        if (!isBell(bell) || what < 0 || what > 1) {
            return NONE;
        }
        boolean sought = what == 1;
        tryDays(0);
        for (int days = 0; days <= MOST_DAYS; days++) {
            if (trial.isTuned(bell, trial.fed[bell]) == sought) {
                return days;
            }
            trial.passDay();
        }
        return NOT_SO;
    }

    public int all() {
        int bestDays = 0;
        int most = 0;
        tryDays(0);
        for (int days = 0; days <= MOST_DAYS; days++) {
            int howMany = Integer.bitCount(trial.tunedBits());
            if (howMany > most) {
                most = howMany;
                bestDays = days;
            }
            trial.passDay();
        }
        return bestDays;
    }

    // ---- meals

    public int meal(int bell, int what) {
        if (!isBell(bell) || what < 0 || what > FOODS) {
            return NONE;
        }
        meals.goThrough(now, bell, NOT_SO);
        if (meals.fewest < 0) {
            return NOT_SO;
        }
        return what == 0 ? meals.fewest : meals.best[what - 1];
    }

    public int came(int bell, int n) {
        if (!isBell(bell)) {
            return NONE;
        }
        if (!isWithin(n, MOST_FED)) {
            return BAD;
        }
        meals.goThrough(now, bell, n);
        return meals.ways;
    }

    public int dear(int bell) {
        if (!isBell(bell)) {
            return NONE;
        }
        int best = 0;
        int most = -1;
        for (int food = 0; food < FOODS; food++) {
            int fills = now.fills(bell, food, now.fed[bell]);
            if (fills > most) {
                most = fills;
                best = food;
            }
        }
        return best;
    }

    // ---- ringing

    public int ring(int k) {
        if (k < -1 || k >= MOST_BELLS) {
            return NONE;
        }
        if (k >= now.bellCount) {
            return NOT_SO;
        }
        rateOrders();
        return k < 0 ? mostGood[0] : nthOfBestOrder(k);
    }

    public int peal(int bell) {
        if (bell == -1) {
            return slate.peal.wipe();
        }
        if (!isBell(bell)) {
            return NONE;
        }
        return slate.peal.add(bell, 0, 0);
    }

    public int good(int what) {
        if (what < 0 || what > 1) {
            return NONE;
        }
        int howMany = 0;
        int fails = NOT_SO;
        tryDays(0);
        for (int i = 0; i < slate.peal.count; i++) {
            if (trial.strokeOf(slate.peal.bells[i])) {
                howMany++;
            } else if (fails == NOT_SO) {
                fails = i;
            }
        }
        return what == 0 ? howMany : fails;
    }

    public int towers() {
        int best = NOT_SO;
        int least = Integer.MAX_VALUE;
        for (int set = 1; set < 1 << now.bellCount; set += 2) {
            int apart = now.apart(set);
            if (apart < least) {
                least = apart;
                best = set;
            }
        }
        return best;
    }

    // ---- seen, odds

    public int see(int bell, int fed, int n) {
        if (bell == -1) {
            return slate.seen.wipe();
        }
        if (!isBell(bell)) {
            return NONE;
        }
        if (!isWithin(fed, MOST_FED) || !isWithin(n, MOST_SEEN_DAYS)) {
            return BAD;
        }
        return slate.seen.add(bell, fed, n);
    }

    public int can(int bell, int what) {
        if (!isBell(bell) || what < 0 || what > 1) {
            return NONE;
        }
        int howMany = 0;
        int least = NOT_SO;
        for (int v = 0; v <= MOST_V; v++) {
            if (allSeenIsSo(bell, v)) {
                howMany++;
                least = least == NOT_SO ? v : least;
            }
        }
        return what == 0 ? howMany : least;
    }

    public long odds(int bell, int part) {
        if (!isBell(bell)) {
            return NO;
        }
        int tunedBy = 0;
        int inAll = 0;
        for (int food = 0; food < FOODS; food++) {
            int store = now.stores[food];
            inAll += store;
            tunedBy += now.isTuned(bell, now.fedWith(bell, food, now.fed[bell])) ? store : 0;
        }
        return partOfFraction(tunedBy, inAll, part);
    }

    public long mean(int n, int part) {
        if (!isWithin(n, MOST_DAYS)) {
            return NO;
        }
        tryDays(n);
        int together = 0;
        for (int b = 0; b < trial.bellCount; b++) {
            together += trial.fed[b];
        }
        return partOfFraction(together, trial.bellCount, part);
    }

    // ---- feedings, books

    public int feeding(int bell, int food) {
        if (bell == -1) {
            return slate.feeding.wipe();
        }
        if (bell != DAY_ROW && (!isBell(bell) || !isFood(food))) {
            return NONE;
        }
        return slate.feeding.add(bell, food, 0);
    }

    public int gone(int what) {
        if (what < 0 || what > 1) {
            return NONE;
        }
        tryDays(0);
        for (int i = 0; i < slate.feeding.count; i++) {
            int food = slate.feeding.numbers[i];
            if (slate.feeding.bells[i] == DAY_ROW) {
                trial.passDay();
            } else if (trial.stores[food] > 0) {
                trial.eatOne(slate.feeding.bells[i], food);
            }
        }
        return what == 0 ? trial.eaten - now.eaten : trial.tunedBits();
    }

    public int book(int bell, int fed) {
        if (bell == -1) {
            return slate.book.wipe();
        }
        if (!isBell(bell)) {
            return NONE;
        }
        if (!isWithin(fed, MOST_FED)) {
            return BAD;
        }
        return slate.book.add(bell, fed, 0);
    }

    public int looked() {
        for (int i = 0; i < slate.book.count; i++) {
            if (now.fed[slate.book.bells[i]] != slate.book.numbers[i]) {
                return i;
            }
        }
        return NOT_SO;
    }

    // ---- judging, the image, acts, tapes

    public int judge(int tape, int i) {
        if (!isTape(tape)) {
            return NONE;
        }
        Tape row = tapes[tape];
        if (row.sort != Tape.NO_SORT && row.sort != Tape.BOOLEANS) {
            return CAST;
        }
        for (int b = 0; b < now.bellCount; b++) {
            if (!row.hasPlace(i + b)) {
                return 100 + b;
            }
            if ((row.items[i + b] != 0) != now.isTuned(b, now.fed[b])) {
                return b;
            }
        }
        return NOT_SO;
    }

    public int image() {
        imageHill.copyFrom(now);
        imageSlate.copyFrom(slate);
        hasImage = true;
        return now.bellCount;
    }

    public int undo() {
        if (!hasImage) {
            return STATE;
        }
        now.copyFrom(imageHill);
        slate.copyFrom(imageSlate);
        return now.bellCount;
    }

    public int act(int bell, int act, int x) {
        if (!isBell(bell) || act < Acts.SWINGS || act > Acts.TELLS) {
            acts.ran = 0;
            return 0;
        }
        return acts.perform(now.kinds[bell], bell, now.vs[bell], act, x);
    }

    public int trace(int i) {
        return i >= 0 && i < acts.ran && i < acts.kept.length ? acts.kept[i] : NONE;
    }

    public int taken(int bell, int k) {
        if (!isKind(k)) {
            return BAD;
        }
        if (!isBell(bell)) {
            return NOTHING;
        }
        return isUnder(now.kinds[bell], k) ? now.kinds[bell] : CAST;
    }

    public int count(int what) {
        switch (what) {
            case 0: return now.bellCount;
            case 1: return uplandCount;
            case 2: return slate.peal.count;
            case 3: return slate.seen.count;
            case 4: return slate.feeding.count;
            case 5: return slate.book.count;
            case 6: return reader.length;
            case 7: return acts.ran;
            default: return BAD;
        }
    }

    public int tape(int tape, int sort, int n) {
        if (!isTape(tape)) {
            return NONE;
        }
        if (sort == Tape.NO_SORT) {
            tapes[tape].become(Tape.NO_SORT, 0);
            return 1;
        }
        if (sort < Tape.BYTES || sort > Tape.BOOLEANS || n > MOST_ITEMS) {
            return BAD;
        }
        if (n < 0) {
            return SIZE;
        }
        tapes[tape].become(sort, n);
        return 1;
    }

    public int item(int tape, int i, long v) {
        if (!isTape(tape)) {
            return NONE;
        }
        Tape row = tapes[tape];
        if (row.sort == Tape.NO_SORT) {
            return NOTHING;
        }
        if (!row.hasPlace(i)) {
            return PLACE;
        }
        row.items[i] = row.lowestBits(v);
        return 1;
    }

    public long read(int tape, int i) {
        if (!isTape(tape) || !tapes[tape].hasPlace(i)) {
            return NO;
        }
        return tapes[tape].items[i];
    }

    public int shift(int tape, int i, int other, int j, int n) {
        if (!isTape(tape) || !isTape(other)) {
            return NONE;
        }
        Tape from = tapes[tape];
        Tape to = tapes[other];
        if (from.sort == Tape.NO_SORT || to.sort == Tape.NO_SORT) {
            return NOTHING;
        }
        if (from.sort != to.sort) {
            return CAST;
        }
        if (!from.hasStretch(i, n) || !to.hasStretch(j, n)) {
            return PLACE;
        }
        System.arraycopy(from.items, i, to.items, j, n);
        return n;
    }

    // ---- what the calls share

    private boolean isBell(int bell) {
        return bell >= 0 && bell < now.bellCount;
    }

    private static boolean isFood(int food) {
        return food >= 0 && food < FOODS;
    }

    private static boolean isKind(int kind) {
        return kind >= BELL && kind <= TOLD;
    }

    private static boolean isTape(int tape) {
        return tape >= 0 && tape < MOST_TAPES;
    }

    private static boolean isWithin(int n, int most) {
        return n >= 0 && n <= most;
    }

    /** Whether a KIND is the other one or stands under it. */
    private static boolean isUnder(int kind, int other) {
        int k = kind;
        for (int i = 0; i < MOST_ABOVE && k >= 0; i++) {
            if (k == other) {
                return true;
            }
            k = KIND_ABOVE[k];
        }
        return false;
    }

    private void tryDays(int days) {
        trial.copyFrom(now);
        trial.passDays(days);
    }

    private boolean allSeenIsSo(int bell, int v) {
        tryDays(0);
        trial.vs[bell] = v;
        for (int days = 0; days <= MOST_SEEN_DAYS; days++) {
            for (int i = 0; i < slate.seen.count; i++) {
                boolean isDue = slate.seen.days[i] == days;
                if (isDue && trial.fed[slate.seen.bells[i]] != slate.seen.numbers[i]) {
                    return false;
                }
            }
            trial.passDay();
        }
        return true;
    }

    private static long partOfFraction(int above, int below, int part) {
        if (below <= 0 || part < 0 || part > 1) {
            return NO;
        }
        int common = commonDivisor(above, below);
        return part == 0 ? above / common : below / common;
    }

    private static int commonDivisor(int above, int below) {
        for (int d = below; d > 1; d--) {
            if (above % d == 0 && below % d == 0) {
                return d;
            }
        }
        return 1;
    }

    private void rateOrders() {
        int everyBell = (1 << now.bellCount) - 1;
        mostGood[everyBell] = 0;
        for (int struck = everyBell - 1; struck >= 0; struck--) {
            int most = 0;
            for (int b = 0; b < now.bellCount; b++) {
                if ((struck >> b & 1) == 0) {
                    most = Math.max(most, goodFrom(struck, b));
                }
            }
            mostGood[struck] = most;
        }
    }

    /** How many STROKES can be good, from one of this BELL on, behind those of the BELLS struck. */
    private int goodFrom(int struck, int bell) {
        int fed = Math.max(0, now.fed[bell] - Integer.bitCount(struck));
        return mostGood[struck | 1 << bell] + (now.isTuned(bell, fed) ? 1 : 0);
    }

    private int nthOfBestOrder(int n) {
        int struck = 0;
        int next = NOT_SO;
        for (int i = 0; i <= n; i++) {
            next = firstOfBestOrder(struck);
            if (next < 0) {
                return NOT_SO;
            }
            struck |= 1 << next;
        }
        return next;
    }

    private int firstOfBestOrder(int struck) {
        for (int b = 0; b < now.bellCount; b++) {
            if ((struck >> b & 1) == 0 && goodFrom(struck, b) == mostGood[struck]) {
                return b;
            }
        }
        return NOT_SO;
    }

    /** The BELLS, the STORES, the DAY, and the UPLAND they are in. */
    private static final class Hill {
        int bellCount;
        final int[] kinds = new int[MOST_BELLS];
        final int[] vs = new int[MOST_BELLS];
        final int[] fed = new int[MOST_BELLS];
        final int[] rows = new int[MOST_BELLS * PARTS];
        final int[] stores = new int[FOODS];
        int day;
        int eaten;
        Upland upland;
        /** What a TEST's letters stand for, in the order of Reader.LETTER_SIGNS. */
        private final int[] letters = new int[LETTERS];

        void copyFrom(Hill other) {
            bellCount = other.bellCount;
            System.arraycopy(other.kinds, 0, kinds, 0, MOST_BELLS);
            System.arraycopy(other.vs, 0, vs, 0, MOST_BELLS);
            System.arraycopy(other.fed, 0, fed, 0, MOST_BELLS);
            System.arraycopy(other.rows, 0, rows, 0, MOST_BELLS * PARTS);
            System.arraycopy(other.stores, 0, stores, 0, FOODS);
            day = other.day;
            eaten = other.eaten;
            upland = other.upland;
        }

        int addBell(int kind, int v, int fedAtFirst) {
            int number = bellCount;
            kinds[number] = kind;
            vs[number] = v;
            fed[number] = fedAtFirst;
            bellCount++;
            return number;
        }

        int hunger(int bell) {
            int plainHunger = 2 + vs[bell] / 3;
            switch (kinds[bell]) {
                case GREEDY:
                case CRACKED: return 2 * plainHunger;
                case FAT: return 1;
                case SMALL: return plainHunger - 1;
                case PLAIN: return 0;
                case TOLD: return plainHunger - 1 + rows[bell * PARTS + day % PARTS];
                default: return plainHunger;
            }
        }

        int note(int bell) {
            int v = vs[bell];
            switch (kinds[bell]) {
                case GREEDY: return 60 + v;
                case FAT: return 80;
                case SMALL: return 30;
                case CRACKED: return 40 + v;
                case PLAIN: return 80 - v;
                case TOLD: return 30 + v;
                default: return 50;
            }
        }

        int off(int bell, int howFed) {
            return Math.abs(howFed - note(bell));
        }

        boolean isTuned(int bell, int howFed) {
            return off(bell, howFed) <= upland.tune;
        }

        int tunedBits() {
            int bits = 0;
            for (int b = 0; b < bellCount; b++) {
                bits |= isTuned(b, fed[b]) ? 1 << b : 0;
            }
            return bits;
        }

        /** FILLS, were the BELL so FED: the LIKING hangs on that. */
        int fills(int bell, int food, int howFed) {
            letters[0] = bell;
            letters[1] = food;
            letters[2] = kinds[bell];
            letters[3] = vs[bell];
            letters[4] = howFed / 10;
            letters[5] = day % 10;
            int liking = upland.liking(FIRST_LIKING[food], letters);
            switch (kinds[bell]) {
                case SMALL: return liking / 2;
                case CRACKED: return Math.min(liking, 4);
                case PLAIN: return 0;
                case TOLD: return liking / 2 + vs[bell];
                default: return liking;
            }
        }

        int fedWith(int bell, int food, int howFed) {
            return Math.min(MOST_FED, howFed + fills(bell, food, howFed));
        }

        void eatOne(int bell, int food) {
            fed[bell] = fedWith(bell, food, fed[bell]);
            stores[food]--;
            eaten++;
        }

        void passDay() {
            for (int b = 0; b < bellCount; b++) {
                fed[b] = Math.max(0, fed[b] - hunger(b));
            }
            int food = day % FOODS;
            stores[food] = Math.min(MOST_STORE, stores[food] + upland.grow);
            day++;
        }

        void passDays(int days) {
            for (int i = 0; i < days; i++) {
                passDay();
            }
        }

        boolean strokeOf(int bell) {
            boolean isGood = isTuned(bell, fed[bell]);
            for (int b = 0; b < bellCount; b++) {
                fed[b] = Math.max(0, fed[b] - 1);
            }
            return isGood;
        }

        /** How far the v of a set of BELLS, together, and that of all others are apart. */
        int apart(int set) {
            int sum = 0;
            for (int b = 0; b < bellCount; b++) {
                sum += (set >> b & 1) == 1 ? vs[b] : -vs[b];
            }
            return Math.abs(sum);
        }
    }

    /** What is told by hand: rows of up to three numbers. */
    private static final class Rows {
        private static final int MOST_ROWS = 10;
        private final int most;
        int count;
        final int[] bells = new int[MOST_ROWS];
        final int[] numbers = new int[MOST_ROWS];
        final int[] days = new int[MOST_ROWS];

        Rows(int most) {
            this.most = Math.min(most, MOST_ROWS);
        }

        int add(int bell, int number, int day) {
            if (count >= most) {
                return FULL;
            }
            bells[count] = bell;
            numbers[count] = number;
            days[count] = day;
            count++;
            return count;
        }

        int wipe() {
            count = 0;
            return 0;
        }

        void copyFrom(Rows other) {
            count = other.count;
            System.arraycopy(other.bells, 0, bells, 0, MOST_ROWS);
            System.arraycopy(other.numbers, 0, numbers, 0, MOST_ROWS);
            System.arraycopy(other.days, 0, days, 0, MOST_ROWS);
        }
    }

    /** All that is told by hand. */
    private static final class Slate {
        final Rows peal = new Rows(10);
        final Rows seen = new Rows(5);
        final Rows feeding = new Rows(10);
        final Rows book = new Rows(8);

        void copyFrom(Slate other) {
            peal.copyFrom(other.peal);
            seen.copyFrom(other.seen);
            feeding.copyFrom(other.feeding);
            book.copyFrom(other.book);
        }
    }

    /** The CLAUSES of one text. A likes or loathes has its E as steps, what a step joins ahead of it. */
    private static final class Upland {
        static final int AND = -1, OR = -2, NOT = -3;
        int tune;
        int grow;
        private int clauseCount;
        private final int[] amounts = new int[MOST_CLAUSES];
        private final int[] stepEnds = new int[MOST_CLAUSES];
        private int stepCount;
        private final int[] steps = new int[MOST_TEXT];

        Upland() {
            tune = 9;
        }

        void wipe() {
            tune = 9;
            grow = 0;
            clauseCount = 0;
            stepCount = 0;
        }

        void addStep(int step) {
            if (stepCount < steps.length) {
                steps[stepCount] = step;
                stepCount++;
            }
        }

        void addTest(int letter, int sign, int number) {
            addStep(letter * 1000 + sign * 100 + number);
        }

        /** The steps since the last one are the E of a likes (or, below 0, a loathes). */
        void endLiking(int amount) {
            if (clauseCount < amounts.length) {
                amounts[clauseCount] = amount;
                stepEnds[clauseCount] = stepCount;
                clauseCount++;
            }
        }

        int liking(int first, int[] letters) {
            int sum = first;
            int from = 0;
            for (int c = 0; c < clauseCount; c++) {
                if (holds(from, stepEnds[c], letters)) {
                    sum += amounts[c];
                }
                from = stepEnds[c];
            }
            return Math.max(0, sum);
        }

        private boolean holds(int from, int to, int[] letters) {
            // a stack of bits, the last on it lowest: a text of 100 bytes needs no more than an int has
            int stack = 0;
            for (int s = from; s < to; s++) {
                int step = steps[s];
                if (step == NOT) {
                    stack ^= 1;
                } else if (step == AND) {
                    stack = stack >> 1 & (stack | ~1);
                } else if (step == OR) {
                    stack = stack >> 1 | stack & 1;
                } else {
                    stack = stack << 1 | (testHolds(step, letters) ? 1 : 0);
                }
            }
            return (stack & 1) == 1;
        }

        private static boolean testHolds(int step, int[] letters) {
            int letter = step / 1000;
            if (letter < 0 || letter >= letters.length) {
                return false;
            }
            int value = letters[letter];
            int number = step % 100;
            switch (step / 100 % 10) {
                case 0: return value < number;
                case 1: return value == number;
                default: return value > number;
            }
        }
    }

    /** THE TEXT, and what reads it: a reading that fails stops at the FAULT. */
    private static final class Reader {
        private static final String LETTER_SIGNS = "bfkvhd", COMPARISONS = "<=>";
        private static final int MOST_WITHIN = 4;
        private final byte[] text = new byte[MOST_TEXT];
        int length;
        int place;
        private Upland upland;

        int takeIn(byte sign) {
            if (length >= text.length) {
                return FULL;
            }
            text[length] = sign;
            length++;
            return length;
        }

        boolean readUpland(Upland into) {
            upland = into;
            upland.wipe();
            place = 0;
            for (int c = 0; c < MOST_CLAUSES; c++) {
                if (c > 0 && !take(';') || !readClause()) {
                    return false;
                }
                if (place == length) {
                    return true;
                }
            }
            return false;
        }

        private boolean readClause() {
            if (sees(0, 't')) {
                upland.tune = numberBehind("tune ");
                return upland.tune >= 0;
            }
            if (sees(0, 'g')) {
                upland.grow = numberBehind("grow ");
                return upland.grow >= 0;
            }
            boolean loathes = sees(1, 'o');
            int n = numberBehind(loathes ? "loathes " : "likes ");
            if (n < 0 || !take(' ') || !readEither(0)) {
                return false;
            }
            upland.endLiking(loathes ? -n : n);
            return true;
        }

        /** E: T or T|E; within tells how many ( and ! stand open. */
        private boolean readEither(int within) {
            boolean isRead = readBoth(within);
            for (int i = 0; i < MOST_TEXT && isRead && take('|'); i++) {
                isRead = readBoth(within);
                upland.addStep(Upland.OR);
            }
            return isRead;
        }

        /** T: F or F&T. */
        private boolean readBoth(int within) {
            boolean isRead = readOne(within);
            for (int i = 0; i < MOST_TEXT && isRead && take('&'); i++) {
                isRead = readOne(within);
                upland.addStep(Upland.AND);
            }
            return isRead;
        }

        /** F: !F, (E), or a TEST. */
        private boolean readOne(int within) {
            boolean mayOpen = within < MOST_WITHIN;
            if (mayOpen && take('!')) {
                boolean isRead = readOne(within + 1);
                upland.addStep(Upland.NOT);
                return isRead;
            }
            if (mayOpen && take('(')) {
                return readEither(within + 1) && take(')');
            }
            int letter = takeOneOf(LETTER_SIGNS);
            int sign = letter < 0 ? -1 : takeOneOf(COMPARISONS);
            int number = sign < 0 ? -1 : takeNumber();
            if (number < 0) {
                return false;
            }
            upland.addTest(letter, sign, number);
            return true;
        }

        private boolean sees(int ahead, char sign) {
            int at = place + ahead;
            return at < length && text[at] == sign;
        }

        private boolean take(char sign) {
            if (place >= length || text[place] != sign) {
                return false;
            }
            place++;
            return true;
        }

        private int takeOneOf(String signs) {
            int which = place < length ? signs.indexOf((char) text[place]) : -1;
            place += which < 0 ? 0 : 1;
            return which;
        }

        private int numberBehind(String word) {
            for (int i = 0; i < word.length(); i++) {
                if (!take(word.charAt(i))) {
                    return -1;
                }
            }
            return takeNumber();
        }

        /** A number of 1 or 2 digits; -1, if there is none. */
        private int takeNumber() {
            int number = -1;
            for (int i = 0; i < 2 && place < length; i++) {
                int digit = text[place] - '0';
                if (digit < 0 || digit > 9) {
                    return number;
                }
                number = Math.max(number, 0) * 10 + digit;
                place++;
            }
            return number;
        }
    }

    /** All MEALS that a BELL can have, gone through. */
    private static final class Meals {
        private Hill hill;
        private int bell;
        private int soughtFed;
        private final int[] taking = new int[FOODS];
        /** By how many MEALS the BELL would be FED as sought. */
        int ways;
        /** How many FOODS the best MEAL has; below 0: there is none. */
        int fewest;
        final int[] best = new int[FOODS];

        void goThrough(Hill ofHill, int ofBell, int sought) {
            hill = ofHill;
            bell = ofBell;
            soughtFed = sought;
            ways = 0;
            fewest = NOT_SO;
            choose(0, MOST_MEAL, hill.fed[bell]);
        }

        /** Goes through what can be taken of this FOOD and those behind it. */
        private void choose(int food, int left, int howFed) {
            if (food >= FOODS) {
                weigh(MOST_MEAL - left, howFed);
                return;
            }
            int most = Math.min(left, hill.stores[food]);
            int fedThen = howFed;
            for (int n = 0; n <= most; n++) {
                fedThen = n == 0 ? howFed : hill.fedWith(bell, food, fedThen);
                taking[food] = n;
                choose(food + 1, left - n, fedThen);
            }
        }

        private void weigh(int foods, int fedThen) {
            ways += fedThen == soughtFed ? 1 : 0;
            // of MEALS with as many FOODS those with more of the first ones come later
            if (hill.isTuned(bell, fedThen) && (fewest < 0 || foods <= fewest)) {
                fewest = foods;
                System.arraycopy(taking, 0, best, 0, FOODS);
            }
        }
    }

    /** An ACT of a BELL, and the TRACE that it leaves. */
    private static final class Acts {
        static final int SWINGS = 0, RINGS = 1, TELLS = 2;
        private static final int ACTS = 3, MOST_DEPTH = 20, MOST_KEPT = 20;
        /** Of each KIND the bodies of swings, rings, tells; 0: it has none. */
        private static final int[] BODIES = {
            10, 11, 12, 0, 20, 0, 30, 0, 0, 0, 0, 40, 50, 51, 0, 0, 0, 60, 71, 70, 0
        };
        private int kind;
        private int number;
        private int v;
        int ran;
        final int[] kept = new int[MOST_KEPT];

        int perform(int ofKind, int ofNumber, int ofV, int act, int x) {
            kind = ofKind;
            number = ofNumber;
            v = ofV;
            ran = 0;
            return runs(kind, act, x, 0);
        }

        /** Runs the body that the KIND, or else the next one above that has one, has of an ACT. */
        private int runs(int from, int act, int x, int depth) {
            int body = bodyOf(from, act);
            if (body == 0 || depth > MOST_DEPTH) {
                return 0;
            }
            if (ran < kept.length) {
                kept[ran] = body;
            }
            ran++;
            int deeper = depth + 1;
            switch (body) {
                case 10: return x + number;
                case 11: return runs(kind, SWINGS, x, deeper) - v;
                case 12: return runs(kind, RINGS, x, deeper) * 2;
                case 20: return runs(BELL, RINGS, x, deeper) ^ 6;
                case 30: return runs(BELL, SWINGS, x * 3, deeper);
                case 40: return runs(BELL, TELLS, x, deeper) + runs(kind, RINGS, 1, deeper);
                case 50: return -runs(GREEDY, SWINGS, x, deeper);
                case 51: return runs(GREEDY, RINGS, x + 1, deeper);
                case 60: return runs(FAT, TELLS, x - number, deeper);
                case 70: return runs(SMALL, RINGS, x, deeper) + runs(SMALL, SWINGS, 2, deeper);
                default: return runs(SMALL, SWINGS, x, deeper) ^ v;
            }
        }

        private static int bodyOf(int from, int act) {
            int k = from;
            for (int i = 0; i < MOST_ABOVE && k >= 0; i++) {
                int body = BODIES[k * ACTS + act];
                if (body != 0) {
                    return body;
                }
                k = KIND_ABOVE[k];
            }
            return 0;
        }
    }

    /** A row of items of one sort, or nothing. */
    private static final class Tape {
        static final int NO_SORT = -1, BYTES = 0, SHORTS = 1, INTS = 2, LONGS = 3, BOOLEANS = 4;
        int sort = NO_SORT;
        private int length;
        final long[] items = new long[MOST_ITEMS];

        void become(int newSort, int newLength) {
            sort = newSort;
            length = newLength;
            Arrays.fill(items, 0);
        }

        boolean hasPlace(int i) {
            return i >= 0 && i < length;
        }

        boolean hasStretch(int i, int n) {
            return i >= 0 && n >= 0 && i <= length - n;
        }

        long lowestBits(long v) {
            switch (sort) {
                case BYTES: return (byte) v;
                case SHORTS: return (short) v;
                case INTS: return (int) v;
                case LONGS: return v;
                default: return v != 0 ? 1 : 0;
            }
        }
    }
}
