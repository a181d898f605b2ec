import java.util.Arrays;

/**
 * A cooper's yard: staves season, casks are raised of them, hooped, filled,
 * racked, mended and broken up, and time goes by in months.
 */
public final class CaskYard {
    private static final int MAX_STAVES = 60;
    private static final int MAX_SORTS = 6;
    private static final int MAX_CASKS = 12;
    private static final int MAX_HOOPS = 8;
    private static final int LIQUIDS = 5;
    private static final int VINEGAR = 4;
    private static final int MAX_AMOUNT = 60000;
    private static final int MAX_PASS = 60;
    private static final int LAST_MONTH = 1200;
    private static final int YEAR = 12;

    private static final int IN_YARD = -1;
    private static final int GONE = -2;

    private static final int MIN_WIDTH = 20;
    private static final int MAX_WIDTH = 120;
    private static final int MAX_DRYNESS = 100;
    private static final int SEASONING = 4;
    private static final int WETTING = 30;
    private static final int USABLE_DRYNESS = 60;
    private static final int FLAWLESS_DRYNESS = 70;

    private static final int MIN_GIRTH = 300;
    private static final int MAX_GIRTH = 1500;
    private static final int GIRTH_TO_SPARE = 4;
    private static final int MIN_ROOM = 100;
    private static final int MIN_HOOPS = 2;

    private static final int FIRST_TENSION = 3;
    private static final int MAX_TENSION = 9;
    private static final int TENSION_BEFORE_CRACK = 5;
    private static final int MAX_SWELLING = 20;
    private static final int MONTHS_TO_VINEGAR = 6;
    private static final int FIRST_WARMTH = 2;
    private static final int MAX_WARMTH = 9;

    private static final int MAX_TASTE = 1000000;
    private static final int TENTHS = 10;
    private static final int NONE = -1;

    private static final int STAVE_TELLS = 3;
    private static final int CASK_TELLS = 16;
    private static final int COUNT_TELLS = 10;
    private static final int FORESEE_TELLS = 4;
    private static final int BLEND_TELLS = 4;
    private static final int FIRST_LIQUID_TELL = 8;
    private static final long DIGEST_START = 487;
    private static final long DIGEST_FACTOR = 31;

    /** No set of staves; a set has bit n for stave n, so that all its bits are never set. */
    private static final long NO_SET = -1L;
    /** The size of a set that is not there: more than any that is, with one stave more too. */
    private static final int NO_SIZE = 1000;

    /** A cask. One that is broken up keeps its sort alone. */
    private static final class Cask {
        int sort;
        int room;
        boolean sound;
        int flaws;
        int hoops;
        int swelling;
        int fillings;
        int airMonths;
        int grains;
        final int[] tensions = new int[MAX_HOOPS];
        final int[] amounts = new int[LIQUIDS];

        void clear() {
            sound = false;
            flaws = 0;
            hoops = 0;
            swelling = 0;
            fillings = 0;
            airMonths = 0;
            grains = 0;
            Arrays.fill(tensions, 0);
            Arrays.fill(amounts, 0);
        }

        void copyFrom(Cask other) {
            sort = other.sort;
            room = other.room;
            sound = other.sound;
            flaws = other.flaws;
            hoops = other.hoops;
            swelling = other.swelling;
            fillings = other.fillings;
            airMonths = other.airMonths;
            grains = other.grains;
            System.arraycopy(other.tensions, 0, tensions, 0, MAX_HOOPS);
            System.arraycopy(other.amounts, 0, amounts, 0, LIQUIDS);
        }

        void putOnHoops(int number) {
            hoops = number;
            for (int h = 0; h < hoops && h < MAX_HOOPS; h++) {
                tensions[h] = FIRST_TENSION;
            }
        }

        int held() {
            int sum = 0;
            for (int l = 0; l < LIQUIDS; l++) {
                sum += amounts[l];
            }
            return sum;
        }

        int allTensions() {
            int sum = 0;
            for (int h = 0; h < MAX_HOOPS; h++) {
                sum += tensions[h];
            }
            return sum;
        }

        int leak() {
            if (!sound) {
                return 0;
            }
            return Math.max(0, 30 + 10 * flaws - 2 * allTensions() - swelling);
        }

        int tasteOfOak() {
            int all = held();
            if (all == 0) {
                return 0;
            }
            return (int) Math.min(MAX_TASTE, grains * 1000L / all);
        }

        boolean canBeBlended() {
            return sound && held() > 0 && amounts[VINEGAR] == 0;
        }

        /** Something is about to come in. */
        void countFilling() {
            if (held() == 0) {
                fillings++;
            }
        }

        /** Lets a month go by; tells how much is lost in it. */
        int live(int warmth, boolean hoopsLoosen) {
            if (!sound) {
                return 0;
            }
            takeOak();
            swell();
            int lost = lose(leak() + 3 + warmth);
            takeAir();
            if (hoopsLoosen) {
                loosen();
            }
            return lost;
        }

        private void takeOak() {
            int growth = held() / 100 * (8 - fillings);
            if (growth > 0) {
                grains += growth;
            }
        }

        private void swell() {
            if (2 * held() >= room) {
                swelling = Math.min(MAX_SWELLING, swelling + 5);
            } else {
                swelling = Math.max(0, swelling - 3);
            }
        }

        private int lose(int thousandths) {
            int lost = 0;
            for (int l = 0; l < LIQUIDS; l++) {
                int amount = amounts[l];
                if (amount > 0) {
                    long share = (long) amount * thousandths / 1000;
                    int loss = (int) Math.min(amount, Math.max(1L, share));
                    amounts[l] = amount - loss;
                    lost += loss;
                }
            }
            return lost;
        }

        private void takeAir() {
            int all = held();
            if (all > 0 && 5 * all < 4 * room) {
                airMonths++;
            } else {
                airMonths = 0;
            }
            if (airMonths == MONTHS_TO_VINEGAR) {
                Arrays.fill(amounts, 0);
                amounts[VINEGAR] = all;
                airMonths = 0;
            }
        }

        private void loosen() {
            for (int h = 0; h < MAX_HOOPS; h++) {
                tensions[h] = Math.max(0, tensions[h] - 1);
            }
        }

        /** Moves so much of all that is held, all being greater than 0 and not less than the amount. */
        void moveTo(Cask other, int amount, int all) {
            if (all <= 0) {
                return;
            }
            int moved = 0;
            for (int l = 0; l < LIQUIDS; l++) {
                int part = (int) ((long) amounts[l] * amount / all);
                moveLiquid(other, l, part);
                moved += part;
            }
            // Fewer cups are missing now than liquids were cut, and each of those
            // has some left: the first round always makes up for them.
            for (int l = 0; l < LIQUIDS && moved < amount; l++) {
                if (amounts[l] > 0) {
                    moveLiquid(other, l, 1);
                    moved++;
                }
            }
            int grainsMoved = (int) ((long) grains * amount / all);
            grains -= grainsMoved;
            other.grains += grainsMoved;
        }

        private void moveLiquid(Cask other, int liquid, int amount) {
            amounts[liquid] -= amount;
            other.amounts[liquid] += amount;
        }
    }

    /** Two casks and how they are blended; a is NONE as long as no blend is found. */
    private static final class Blend {
        int a;
        int b;
        int tenths;
        int mixedTaste;
        int difference;

        void clear() {
            a = NONE;
            b = NONE;
            tenths = NONE;
            mixedTaste = NONE;
            difference = 0;
        }

        /** Takes a blend if it is better than the one found before; of equal ones the first one stays. */
        void offer(int offeredA, int offeredB, int offeredTenths, int offeredTaste, int target) {
            int offeredDifference = Math.abs(offeredTaste - target);
            if (a == NONE || offeredDifference < difference) {
                a = offeredA;
                b = offeredB;
                tenths = offeredTenths;
                mixedTaste = offeredTaste;
                difference = offeredDifference;
            }
        }
    }

    private final int[] widths = new int[MAX_STAVES];
    private final int[] drynesses = new int[MAX_STAVES];
    /** For each stave its cask, IN_YARD or GONE. */
    private final int[] places = new int[MAX_STAVES];
    private int staveCount;

    private final int[] girths = new int[MAX_SORTS];
    private final int[] rooms = new int[MAX_SORTS];
    private final int[] hoopNumbers = new int[MAX_SORTS];
    private int sortCount;

    private final Cask[] casks = new Cask[MAX_CASKS];
    private int caskCount;
    /** Stands for the ground where something is poured away, and for a cask whose months are foreseen. */
    private final Cask spare = new Cask();

    /** For each sum of widths the best set that makes it, and its size; used anew in each search. */
    private final long[] sets = new long[MAX_GIRTH + GIRTH_TO_SPARE + 1];
    private final int[] sizes = new int[MAX_GIRTH + GIRTH_TO_SPARE + 1];
    private final Blend best = new Blend();

    private int month;
    private int lostInAll;
    private int warmthNow = FIRST_WARMTH;

    public CaskYard() {
        for (int c = 0; c < MAX_CASKS; c++) {
            casks[c] = new Cask();
        }
    }

    // ---- staves and sorts

    public int addStave(int width, int dryness) throws IllegalArgumentException, IllegalStateException {
        if (width < MIN_WIDTH || width > MAX_WIDTH) {
            throw new IllegalArgumentException("width is not 20 to 120");
        }
        if (dryness < 0 || dryness > MAX_DRYNESS) {
            throw new IllegalArgumentException("dryness is not 0 to 100");
        }
        if (staveCount >= MAX_STAVES) {
            throw new IllegalStateException("there are 60 staves");
        }
        widths[staveCount] = width;
        drynesses[staveCount] = dryness;
        places[staveCount] = IN_YARD;
        staveCount++;
        return staveCount - 1;
    }

    public int stave(int stave, int what) throws IndexOutOfBoundsException {
        if (!isStave(stave)) {
            throw new IndexOutOfBoundsException("no such stave");
        }
        if (what < 0 || what >= STAVE_TELLS) {
            throw new IndexOutOfBoundsException("what is not 0 to 2");
        }
        switch (what) {
            case 0:
                return widths[stave];
            case 1:
                return drynesses[stave];
            default:
                return places[stave];
        }
    }

    public int addSort(int girth, int room, int hoops) throws IllegalArgumentException, IllegalStateException {
        if (girth < MIN_GIRTH || girth > MAX_GIRTH) {
            throw new IllegalArgumentException("girth is not 300 to 1500");
        }
        if (room < MIN_ROOM || room > MAX_AMOUNT) {
            throw new IllegalArgumentException("room is not 100 to 60000");
        }
        if (hoops < MIN_HOOPS || hoops > MAX_HOOPS) {
            throw new IllegalArgumentException("hoops is not 2 to 8");
        }
        if (sortCount >= MAX_SORTS) {
            throw new IllegalStateException("there are 6 sorts");
        }
        girths[sortCount] = girth;
        rooms[sortCount] = room;
        hoopNumbers[sortCount] = hoops;
        sortCount++;
        return sortCount - 1;
    }

    public int choose(int sort, int index) throws IndexOutOfBoundsException {
        if (!isSort(sort)) {
            throw new IndexOutOfBoundsException("no such sort");
        }
        if (index < 0 || index >= MAX_STAVES) {
            throw new IndexOutOfBoundsException("index is not 0 to 59");
        }
        long set = findSet(girths[sort]);
        return set == NO_SET ? NONE : memberOf(set, index);
    }

    // ---- casks

    public int raise(int sort) throws IndexOutOfBoundsException, IllegalStateException {
        if (!isSort(sort)) {
            throw new IndexOutOfBoundsException("no such sort");
        }
        if (caskCount >= MAX_CASKS) {
            throw new IllegalStateException("there are 12 casks");
        }
        long set = findSet(girths[sort]);
        if (set == NO_SET) {
            throw new IllegalStateException("no set of staves makes it");
        }
        Cask raised = casks[caskCount];
        raised.sort = sort;
        raised.room = rooms[sort];
        raised.sound = true;
        raised.putOnHoops(hoopNumbers[sort]);
        raised.flaws = putStavesIn(set, caskCount);
        caskCount++;
        return caskCount - 1;
    }

    public int drive(int cask, int hoop, int by) throws IndexOutOfBoundsException, IllegalArgumentException {
        if (!isCask(cask)) {
            throw new IndexOutOfBoundsException("no such cask");
        }
        Cask driven = casks[cask];
        if (hoop < 0 || hoop >= driven.hoops) {
            throw new IndexOutOfBoundsException("no such hoop");
        }
        if (by < 1 || by > MAX_TENSION) {
            throw new IllegalArgumentException("by is not 1 to 9");
        }
        driven.tensions[hoop] = Math.min(MAX_TENSION, driven.tensions[hoop] + by);
        if (driven.allTensions() > TENSION_BEFORE_CRACK * driven.hoops) {
            driven.flaws++;
        }
        return driven.tensions[hoop];
    }

    public int mend(int cask, int stave) throws IndexOutOfBoundsException, IllegalStateException {
        if (!isCask(cask)) {
            throw new IndexOutOfBoundsException("no such cask");
        }
        if (!isStave(stave)) {
            throw new IndexOutOfBoundsException("no such stave");
        }
        Cask mended = casks[cask];
        int last = lastStaveIn(cask);
        if (!mended.sound || last == NONE) {
            throw new IllegalStateException("the cask is broken up");
        }
        if (mended.held() > 0) {
            throw new IllegalStateException("the cask holds something");
        }
        if (places[stave] != IN_YARD) {
            throw new IllegalStateException("the stave is not in the yard");
        }
        if (widths[stave] != widths[last]) {
            throw new IllegalStateException("the stave has another width");
        }
        int flawsBefore = mended.flaws;
        places[last] = GONE;
        places[stave] = cask;
        mended.flaws = flawsOf(stave);
        return flawsBefore;
    }

    public int breakUp(int cask) throws IndexOutOfBoundsException, IllegalStateException {
        if (!isCask(cask)) {
            throw new IndexOutOfBoundsException("no such cask");
        }
        Cask broken = casks[cask];
        if (!broken.sound) {
            throw new IllegalStateException("it is broken up");
        }
        int spilled = broken.held();
        takeStavesOutOf(cask);
        broken.clear();
        return spilled;
    }

    public int cask(int cask, int what) throws IndexOutOfBoundsException {
        if (!isCask(cask)) {
            throw new IndexOutOfBoundsException("no such cask");
        }
        if (what < 0 || what >= CASK_TELLS) {
            throw new IndexOutOfBoundsException("what is not 0 to 15");
        }
        return tellOfCask(cask, what);
    }

    // ---- liquids

    public int fill(int cask, int liquid, int amount)
            throws IndexOutOfBoundsException, IllegalArgumentException, IllegalStateException {
        if (!isCask(cask)) {
            throw new IndexOutOfBoundsException("no such cask");
        }
        if (liquid < 0 || liquid >= VINEGAR) {
            throw new IllegalArgumentException("liquid is not 0 to 3");
        }
        if (amount < 1 || amount > MAX_AMOUNT) {
            throw new IllegalArgumentException("amount is not 1 to 60000");
        }
        Cask filled = casks[cask];
        if (!filled.sound) {
            throw new IllegalStateException("it is broken up");
        }
        if (filled.held() + amount > filled.room) {
            throw new IllegalStateException("it would hold more than its room");
        }
        filled.countFilling();
        filled.amounts[liquid] += amount;
        return filled.held();
    }

    public int rack(int from, int to, int amount)
            throws IndexOutOfBoundsException, IllegalArgumentException, IllegalStateException {
        boolean away = to == NONE;
        if (!isCask(from) || (!away && !isCask(to))) {
            throw new IndexOutOfBoundsException("no such cask");
        }
        if (from == to) {
            throw new IllegalArgumentException("both are the same");
        }
        if (amount < 1 || amount > MAX_AMOUNT) {
            throw new IllegalArgumentException("amount is not 1 to 60000");
        }
        Cask source = casks[from];
        Cask target = away ? spare : casks[to];
        if (!source.sound || (!away && !target.sound)) {
            throw new IllegalStateException("one of them is broken up");
        }
        int all = source.held();
        if (all < amount) {
            throw new IllegalStateException("the first one holds less");
        }
        if (!away && target.held() + amount > target.room) {
            throw new IllegalStateException("the second one would hold more than its room");
        }
        if (away) {
            spare.clear();
        }
        target.countFilling();
        source.moveTo(target, amount, all);
        return source.held();
    }

    public int setWarmth(int warmth) throws IllegalArgumentException {
        if (warmth < 0 || warmth > MAX_WARMTH) {
            throw new IllegalArgumentException("warmth is not 0 to 9");
        }
        int before = warmthNow;
        warmthNow = warmth;
        return before;
    }

    // ---- months

    public int pass(int months) throws IllegalArgumentException, IllegalStateException {
        if (months < 1 || months > MAX_PASS) {
            throw new IllegalArgumentException("months is not 1 to 60");
        }
        if (month + months > LAST_MONTH) {
            throw new IllegalStateException("the month would be greater than 1200");
        }
        int lost = 0;
        for (int m = 0; m < months; m++) {
            lost += liveMonth();
        }
        lostInAll += lost;
        return lost;
    }

    public int count(int what) throws IndexOutOfBoundsException {
        if (what < 0 || what >= COUNT_TELLS) {
            throw new IndexOutOfBoundsException("what is not 0 to 9");
        }
        switch (what) {
            case 0:
                return month;
            case 1:
                return staveCount;
            case 2:
                return stavesAt(IN_YARD);
            case 3:
                return sortCount;
            case 4:
                return caskCount;
            case 5:
                return soundCasks();
            case 6:
                return heldByAll();
            case 7:
                return vinegarOfAll();
            case 8:
                return lostInAll;
            default:
                return warmthNow;
        }
    }

    public int foresee(int cask, int months, int what)
            throws IndexOutOfBoundsException, IllegalArgumentException, IllegalStateException {
        if (!isCask(cask)) {
            throw new IndexOutOfBoundsException("no such cask");
        }
        if (what < 0 || what >= FORESEE_TELLS) {
            throw new IndexOutOfBoundsException("what is not 0 to 3");
        }
        if (months < 1 || months > MAX_PASS) {
            throw new IllegalArgumentException("months is not 1 to 60");
        }
        if (month + months > LAST_MONTH) {
            throw new IllegalStateException("the month would be greater than 1200");
        }
        spare.copyFrom(casks[cask]);
        for (int m = 0; m < months; m++) {
            spare.live(warmthNow, hoopsLoosenIn(month + m));
        }
        switch (what) {
            case 0:
                return spare.held();
            case 1:
                return spare.amounts[VINEGAR];
            case 2:
                return spare.grains;
            default:
                return spare.leak();
        }
    }

    public int blend(int target, int what) throws IllegalArgumentException, IndexOutOfBoundsException {
        if (target < 0 || target > MAX_TASTE) {
            throw new IllegalArgumentException("target is not 0 to 1000000");
        }
        if (what < 0 || what >= BLEND_TELLS) {
            throw new IndexOutOfBoundsException("what is not 0 to 3");
        }
        findBestBlend(target);
        switch (what) {
            case 0:
                return best.a;
            case 1:
                return best.b;
            case 2:
                return best.tenths;
            default:
                return best.mixedTaste;
        }
    }

    public double taste() {
        int held = heldByAll();
        if (held == 0) {
            return 0;
        }
        long grains = 0;
        for (int c = 0; c < caskCount; c++) {
            grains += casks[c].grains;
        }
        return (double) grains / held;
    }

    public long digest() {
        long d = DIGEST_START;
        for (int what = 0; what < COUNT_TELLS; what++) {
            d = d * DIGEST_FACTOR + count(what);
        }
        for (int s = 0; s < staveCount; s++) {
            d = d * DIGEST_FACTOR + widths[s];
            d = d * DIGEST_FACTOR + drynesses[s];
            d = d * DIGEST_FACTOR + places[s];
        }
        for (int s = 0; s < sortCount; s++) {
            d = d * DIGEST_FACTOR + girths[s];
            d = d * DIGEST_FACTOR + rooms[s];
            d = d * DIGEST_FACTOR + hoopNumbers[s];
        }
        for (int c = 0; c < caskCount; c++) {
            d = digestCask(d, c);
        }
        return d;
    }

    // ---- what the calls share

    private boolean isStave(int number) {
        return number >= 0 && number < staveCount;
    }

    private boolean isSort(int number) {
        return number >= 0 && number < sortCount;
    }

    private boolean isCask(int number) {
        return number >= 0 && number < caskCount;
    }

    private boolean isUsable(int number) {
        return places[number] == IN_YARD && drynesses[number] >= USABLE_DRYNESS;
    }

    private int flawsOf(int stave) {
        return drynesses[stave] < FLAWLESS_DRYNESS ? 1 : 0;
    }

    private int stavesAt(int place) {
        int number = 0;
        for (int s = 0; s < staveCount; s++) {
            if (places[s] == place) {
                number++;
            }
        }
        return number;
    }

    private int lastStaveIn(int cask) {
        for (int s = staveCount - 1; s >= 0; s--) {
            if (places[s] == cask) {
                return s;
            }
        }
        return NONE;
    }

    /** The best set of staves for a girth, or NO_SET. */
    private long findSet(int girth) {
        int widest = girth + GIRTH_TO_SPARE;
        Arrays.fill(sets, NO_SET);
        Arrays.fill(sizes, NO_SIZE);
        sets[0] = 0;
        sizes[0] = 0;
        // From the greatest number down: a set with the stave that comes then is
        // ahead of all sets of its sum and size that were found before.
        for (int s = staveCount - 1; s >= 0; s--) {
            if (isUsable(s)) {
                addToSets(s, widest);
            }
        }
        int sum = girth;
        for (int wider = girth + 1; wider <= widest; wider++) {
            if (sizes[wider] < sizes[sum]) {
                sum = wider;
            }
        }
        return sets[sum];
    }

    private void addToSets(int stave, int widest) {
        int width = widths[stave];
        for (int sum = widest; sum >= width; sum--) {
            int size = sizes[sum - width] + 1;
            if (size <= sizes[sum]) {
                sizes[sum] = size;
                sets[sum] = sets[sum - width] | 1L << stave;
            }
        }
    }

    private int memberOf(long set, int index) {
        int before = 0;
        for (int s = 0; s < staveCount; s++) {
            if (isIn(set, s)) {
                if (before == index) {
                    return s;
                }
                before++;
            }
        }
        return NONE;
    }

    private static boolean isIn(long set, int stave) {
        return (set >>> stave & 1L) != 0;
    }

    /** Tells how many flaws come in with them. */
    private int putStavesIn(long set, int cask) {
        int flaws = 0;
        for (int s = 0; s < staveCount; s++) {
            if (isIn(set, s)) {
                places[s] = cask;
                flaws += flawsOf(s);
            }
        }
        return flaws;
    }

    private void takeStavesOutOf(int cask) {
        boolean first = true;
        for (int s = 0; s < staveCount; s++) {
            if (places[s] == cask) {
                drynesses[s] = Math.max(0, drynesses[s] - WETTING);
                places[s] = first ? GONE : IN_YARD;
                first = false;
            }
        }
    }

    private int tellOfCask(int number, int what) {
        Cask told = casks[number];
        int liquid = what - FIRST_LIQUID_TELL;
        if (liquid >= 0 && liquid < LIQUIDS) {
            return told.amounts[liquid];
        }
        switch (what) {
            case 0:
                return told.sort;
            case 1:
                return stavesAt(number);
            case 2:
                return told.flaws;
            case 3:
                return told.allTensions();
            case 4:
                return told.swelling;
            case 5:
                return told.fillings;
            case 6:
                return told.airMonths;
            case 7:
                return told.held();
            case 13:
                return told.grains;
            case 14:
                return told.leak();
            default:
                return told.sound ? 1 : 0;
        }
    }

    private int soundCasks() {
        int number = 0;
        for (int c = 0; c < caskCount; c++) {
            if (casks[c].sound) {
                number++;
            }
        }
        return number;
    }

    private int heldByAll() {
        int sum = 0;
        for (int c = 0; c < caskCount; c++) {
            sum += casks[c].held();
        }
        return sum;
    }

    private int vinegarOfAll() {
        int sum = 0;
        for (int c = 0; c < caskCount; c++) {
            sum += casks[c].amounts[VINEGAR];
        }
        return sum;
    }

    private static boolean hoopsLoosenIn(int month) {
        return (month + 1) % YEAR == 0;
    }

    private int liveMonth() {
        for (int s = 0; s < staveCount; s++) {
            if (places[s] == IN_YARD) {
                drynesses[s] = Math.min(MAX_DRYNESS, drynesses[s] + SEASONING);
            }
        }
        int lost = 0;
        for (int c = 0; c < caskCount; c++) {
            lost += casks[c].live(warmthNow, hoopsLoosenIn(month));
        }
        month++;
        return lost;
    }

    private void findBestBlend(int target) {
        best.clear();
        for (int a = 0; a < caskCount; a++) {
            for (int b = a + 1; b < caskCount; b++) {
                if (casks[a].canBeBlended() && casks[b].canBeBlended()) {
                    offerBlends(a, b, target);
                }
            }
        }
    }

    private void offerBlends(int a, int b, int target) {
        int tasteA = casks[a].tasteOfOak();
        int tasteB = casks[b].tasteOfOak();
        for (int tenths = 1; tenths < TENTHS; tenths++) {
            int mixed = (tenths * tasteA + (TENTHS - tenths) * tasteB) / TENTHS;
            best.offer(a, b, tenths, mixed, target);
        }
    }

    private long digestCask(long before, int number) {
        long d = before;
        for (int what = 0; what < CASK_TELLS; what++) {
            d = d * DIGEST_FACTOR + tellOfCask(number, what);
        }
        Cask told = casks[number];
        for (int h = 0; h < told.hoops && h < MAX_HOOPS; h++) {
            d = d * DIGEST_FACTOR + told.tensions[h];
        }
        return d;
    }
}
