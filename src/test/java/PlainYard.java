import java.util.ArrayList;
import java.util.List;

/**
 * The document once more, told as plainly as can be and without a thought of
 * speed, so that random runs of CaskYard can be held against it.
 */
final class PlainYard {
    static final class Stave {
        int width;
        int dryness;
        int place = -1;
    }

    static final class Sort {
        int girth;
        int room;
        int hoops;
    }

    static final class Vat {
        int sort;
        Sort kind;
        boolean broken;
        int flaws;
        List<Integer> hoops = new ArrayList<>();
        int swelling;
        int fillings;
        int air;
        long grains;
        long[] liquids = new long[5];

        Vat copy() {
            Vat c = new Vat();
            c.sort = sort;
            c.kind = kind;
            c.broken = broken;
            c.flaws = flaws;
            c.hoops = new ArrayList<>(hoops);
            c.swelling = swelling;
            c.fillings = fillings;
            c.air = air;
            c.grains = grains;
            c.liquids = liquids.clone();
            return c;
        }

        long all() {
            return liquids[0] + liquids[1] + liquids[2] + liquids[3] + liquids[4];
        }

        int tensions() {
            int t = 0;
            for (int h : hoops) {
                t += h;
            }
            return t;
        }

        long leak() {
            long l = 30 + 10L * flaws - 2L * tensions() - swelling;
            return broken || l < 0 ? 0 : l;
        }

        long month(int warmth, int number) {
            if (broken) {
                return 0;
            }
            if (all() > 0 && 8 - fillings > 0) {
                grains += all() / 100 * (8 - fillings);
            }
            swelling = 2 * all() >= kind.room ? swelling + 5 : swelling - 3;
            swelling = swelling > 20 ? 20 : swelling < 0 ? 0 : swelling;
            long lost = 0;
            for (int x = 0; x < 5; x++) {
                long part = liquids[x] * (leak() + 3 + warmth) / 1000;
                if (part < 1 && liquids[x] > 0) {
                    part = 1;
                }
                if (part > liquids[x]) {
                    part = liquids[x];
                }
                liquids[x] -= part;
                lost += part;
            }
            air = all() > 0 && 5 * all() < 4L * kind.room ? air + 1 : 0;
            if (air == 6) {
                air = 0;
                liquids = new long[] {0, 0, 0, 0, all()};
            }
            if (number % 12 == 0) {
                for (int h = 0; h < hoops.size(); h++) {
                    if (hoops.get(h) > 0) {
                        hoops.set(h, hoops.get(h) - 1);
                    }
                }
            }
            return lost;
        }

        void into(long[] more, long moreGrains) {
            if (all() == 0) {
                fillings++;
            }
            for (int x = 0; x < 5; x++) {
                liquids[x] += more[x];
            }
            grains += moreGrains;
        }
    }

    private final List<Stave> staves = new ArrayList<>();
    private final List<Sort> sorts = new ArrayList<>();
    private final List<Vat> vats = new ArrayList<>();
    private int month;
    private int warmth = 2;
    private long lost;

    private static void index(boolean fine) {
        if (!fine) {
            throw new IndexOutOfBoundsException();
        }
    }

    private static void argument(boolean fine) {
        if (!fine) {
            throw new IllegalArgumentException();
        }
    }

    private static void state(boolean fine) {
        if (!fine) {
            throw new IllegalStateException();
        }
    }

    private static boolean within(long x, long least, long most) {
        return least <= x && x <= most;
    }

    private static boolean numbers(int x, List<?> list) {
        return within(x, 0, list.size() - 1);
    }

    long addStave(int width, int dryness) {
        argument(within(width, 20, 120) && within(dryness, 0, 100));
        state(staves.size() < 60);
        Stave s = new Stave();
        s.width = width;
        s.dryness = dryness;
        staves.add(s);
        return staves.size() - 1;
    }

    long stave(int stave, int what) {
        index(numbers(stave, staves) && within(what, 0, 2));
        Stave s = staves.get(stave);
        return what == 0 ? s.width : what == 1 ? s.dryness : s.place;
    }

    long addSort(int girth, int room, int hoops) {
        argument(within(girth, 300, 1500) && within(room, 100, 60000) && within(hoops, 2, 8));
        state(sorts.size() < 6);
        Sort s = new Sort();
        s.girth = girth;
        s.room = room;
        s.hoops = hoops;
        sorts.add(s);
        return sorts.size() - 1;
    }

    /** All sets of a size in the order of their numbers; the first one of the least sum is kept. */
    private void search(int from, int left, int sum, List<Integer> taken, int girth, int[] bestSum, List<Integer> best) {
        if (left == 0) {
            if (sum >= girth && sum <= girth + 4 && sum < bestSum[0]) {
                bestSum[0] = sum;
                best.clear();
                best.addAll(taken);
            }
            return;
        }
        for (int s = from; s < staves.size(); s++) {
            Stave stave = staves.get(s);
            int now = sum + stave.width;
            if (stave.place == -1 && stave.dryness >= 60 && now + 20 * (left - 1) <= girth + 4
                    && now + 120 * (left - 1) >= girth) {
                taken.add(s);
                search(s + 1, left - 1, now, taken, girth, bestSum, best);
                taken.remove(taken.size() - 1);
            }
        }
    }

    private List<Integer> best(int girth) {
        List<Integer> best = new ArrayList<>();
        for (int size = 1; size <= staves.size() && best.isEmpty(); size++) {
            search(0, size, 0, new ArrayList<>(), girth, new int[] {Integer.MAX_VALUE}, best);
        }
        return best;
    }

    long choose(int sort, int index) {
        index(numbers(sort, sorts) && within(index, 0, 59));
        List<Integer> best = best(sorts.get(sort).girth);
        return index < best.size() ? best.get(index) : -1;
    }

    long raise(int sort) {
        index(numbers(sort, sorts));
        state(vats.size() < 12);
        List<Integer> best = best(sorts.get(sort).girth);
        state(!best.isEmpty());
        Vat v = new Vat();
        v.sort = sort;
        v.kind = sorts.get(sort);
        for (int h = 0; h < v.kind.hoops; h++) {
            v.hoops.add(3);
        }
        for (int s : best) {
            staves.get(s).place = vats.size();
            v.flaws += staves.get(s).dryness < 70 ? 1 : 0;
        }
        vats.add(v);
        return vats.size() - 1;
    }

    long drive(int cask, int hoop, int by) {
        index(numbers(cask, vats) && numbers(hoop, vats.get(cask).hoops));
        argument(within(by, 1, 9));
        Vat v = vats.get(cask);
        v.hoops.set(hoop, v.hoops.get(hoop) + by > 9 ? 9 : v.hoops.get(hoop) + by);
        if (v.tensions() > 5 * v.hoops.size()) {
            v.flaws++;
        }
        return v.hoops.get(hoop);
    }

    private List<Integer> stavesOf(int cask) {
        List<Integer> list = new ArrayList<>();
        for (int s = 0; s < staves.size(); s++) {
            if (staves.get(s).place == cask) {
                list.add(s);
            }
        }
        return list;
    }

    long mend(int cask, int stave) {
        index(numbers(cask, vats) && numbers(stave, staves));
        Vat v = vats.get(cask);
        state(!v.broken && v.all() == 0 && staves.get(stave).place == -1);
        List<Integer> list = stavesOf(cask);
        Stave last = staves.get(list.get(list.size() - 1));
        state(last.width == staves.get(stave).width);
        int flaws = v.flaws;
        last.place = -2;
        staves.get(stave).place = cask;
        v.flaws = staves.get(stave).dryness < 70 ? 1 : 0;
        return flaws;
    }

    long breakUp(int cask) {
        index(numbers(cask, vats));
        Vat v = vats.get(cask);
        state(!v.broken);
        List<Integer> list = stavesOf(cask);
        for (int s : list) {
            Stave stave = staves.get(s);
            stave.place = s == list.get(0) ? -2 : -1;
            stave.dryness = stave.dryness < 30 ? 0 : stave.dryness - 30;
        }
        Vat broken = new Vat();
        broken.sort = v.sort;
        broken.kind = v.kind;
        broken.broken = true;
        vats.set(cask, broken);
        return v.all();
    }

    long cask(int cask, int what) {
        index(numbers(cask, vats) && within(what, 0, 15));
        Vat v = vats.get(cask);
        long[] tells = {v.sort, stavesOf(cask).size(), v.flaws, v.tensions(), v.swelling, v.fillings, v.air, v.all(),
            v.liquids[0], v.liquids[1], v.liquids[2], v.liquids[3], v.liquids[4], v.grains, v.leak(),
            v.broken ? 0 : 1};
        return tells[what];
    }

    long fill(int cask, int liquid, int amount) {
        index(numbers(cask, vats));
        argument(within(liquid, 0, 3) && within(amount, 1, 60000));
        Vat v = vats.get(cask);
        state(!v.broken && v.all() + amount <= v.kind.room);
        long[] more = new long[5];
        more[liquid] = amount;
        v.into(more, 0);
        return v.all();
    }

    long rack(int from, int to, int amount) {
        index(numbers(from, vats) && (to == -1 || numbers(to, vats)));
        argument(from != to && within(amount, 1, 60000));
        Vat source = vats.get(from);
        state(!source.broken && source.all() >= amount);
        state(to == -1 || !vats.get(to).broken && vats.get(to).all() + amount <= vats.get(to).kind.room);
        long all = source.all();
        long[] part = new long[5];
        long sum = 0;
        for (int x = 0; x < 5; x++) {
            part[x] = source.liquids[x] * amount / all;
            sum += part[x];
        }
        while (sum < amount) {
            for (int x = 0; x < 5; x++) {
                if (sum < amount && source.liquids[x] > part[x]) {
                    part[x]++;
                    sum++;
                }
            }
        }
        long grains = source.grains * amount / all;
        for (int x = 0; x < 5; x++) {
            source.liquids[x] -= part[x];
        }
        source.grains -= grains;
        if (to != -1) {
            vats.get(to).into(part, grains);
        }
        return source.all();
    }

    long setWarmth(int warmth) {
        argument(within(warmth, 0, 9));
        int before = this.warmth;
        this.warmth = warmth;
        return before;
    }

    long pass(int months) {
        argument(within(months, 1, 60));
        state(month + months <= 1200);
        long before = lost;
        for (int m = 0; m < months; m++) {
            for (Stave s : staves) {
                if (s.place == -1) {
                    s.dryness = s.dryness > 96 ? 100 : s.dryness + 4;
                }
            }
            for (Vat v : vats) {
                lost += v.month(warmth, month + 1);
            }
            month++;
        }
        return lost - before;
    }

    long count(int what) {
        index(within(what, 0, 9));
        long sound = 0;
        long held = 0;
        long vinegar = 0;
        for (Vat v : vats) {
            sound += v.broken ? 0 : 1;
            held += v.all();
            vinegar += v.liquids[4];
        }
        long[] tells = {month, staves.size(), stavesOf(-1).size(), sorts.size(), vats.size(), sound, held, vinegar,
            lost, warmth};
        return tells[what];
    }

    long foresee(int cask, int months, int what) {
        index(numbers(cask, vats) && within(what, 0, 3));
        argument(within(months, 1, 60));
        state(month + months <= 1200);
        Vat v = vats.get(cask).copy();
        for (int m = 1; m <= months; m++) {
            v.month(warmth, month + m);
        }
        long[] tells = {v.all(), v.liquids[4], v.grains, v.leak()};
        return tells[what];
    }

    long blend(int target, int what) {
        argument(within(target, 0, 1000000));
        index(within(what, 0, 3));
        long[] best = {-1, -1, -1, -1};
        long least = Long.MAX_VALUE;
        for (int a = 0; a < vats.size(); a++) {
            for (int b = a + 1; b < vats.size(); b++) {
                for (int tenths = 1; tenths <= 9; tenths++) {
                    Vat one = vats.get(a);
                    Vat other = vats.get(b);
                    if (one.all() > 0 && other.all() > 0 && one.liquids[4] + other.liquids[4] == 0) {
                        long x = Math.min(1000000, one.grains * 1000 / one.all());
                        long y = Math.min(1000000, other.grains * 1000 / other.all());
                        long mixed = (tenths * x + (10 - tenths) * y) / 10;
                        if (Math.abs(mixed - target) < least) {
                            least = Math.abs(mixed - target);
                            best = new long[] {a, b, tenths, mixed};
                        }
                    }
                }
            }
        }
        return best[what];
    }

    double taste() {
        long held = 0;
        long grains = 0;
        for (Vat v : vats) {
            held += v.all();
            grains += v.grains;
        }
        return held == 0 ? 0.0 : (double) grains / (double) held;
    }

    long digest() {
        List<Long> numbers = new ArrayList<>();
        for (int what = 0; what < 10; what++) {
            numbers.add(count(what));
        }
        for (int s = 0; s < staves.size(); s++) {
            for (int what = 0; what < 3; what++) {
                numbers.add(stave(s, what));
            }
        }
        for (Sort s : sorts) {
            numbers.add((long) s.girth);
            numbers.add((long) s.room);
            numbers.add((long) s.hoops);
        }
        for (int c = 0; c < vats.size(); c++) {
            for (int what = 0; what < 16; what++) {
                numbers.add(cask(c, what));
            }
            for (int h : vats.get(c).hoops) {
                numbers.add((long) h);
            }
        }
        long d = 487;
        for (long x : numbers) {
            d = d * 31 + x;
        }
        return d;
    }
}
