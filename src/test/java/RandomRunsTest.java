/**
 * All promises: long runs of mixed calls, right and wrong ones, whose answers
 * and digests are those of the plain yard. The runs are the same each time,
 * and none makes more calls than an object has.
 */
public final class RandomRunsTest {
    private static final int RUNS = 1200;
    private static final int CALLS = 512;
    /** More than one step makes, and the two calls at the end. */
    private static final int CALLS_TO_SPARE = 12;

    private static long seed;
    private static int calls;

    public static void main(String[] args) {
        int runs = args.length > 0 ? Integer.parseInt(args[0]) : RUNS;
        for (int run = 0; run < runs; run++) {
            seed = run * 7919L + 17;
            run(run);
        }
        Check.end();
    }

    private static int any(int bound) {
        seed = seed * 6364136223846793005L + 1442695040888963407L;
        return (int) ((seed >>> 33) % bound);
    }

    /** Mostly one of 0 to bound - 1, now and then one beside them. */
    private static int near(int bound) {
        if (any(25) == 0) {
            int[] odd = {-1, -2, bound, bound + 1, Integer.MIN_VALUE, Integer.MAX_VALUE, 60, 12};
            return odd[any(odd.length)];
        }
        return any(Math.max(1, bound));
    }

    private static int between(int least, int most) {
        if (any(40) == 0) {
            int[] odd = {least - 1, most + 1, Integer.MIN_VALUE, Integer.MAX_VALUE};
            return odd[any(odd.length)];
        }
        return any(8) == 0 ? (any(2) == 0 ? least : most) : least + any(most - least + 1);
    }

    private static void run(int run) {
        CaskYard yard = new CaskYard();
        PlainYard plain = new PlainYard();
        int style = run % 5;
        calls = 0;
        for (int step = 0; calls < CALLS - CALLS_TO_SPARE; step++) {
            String at = run + "." + step + " ";
            oneStep(at, yard, plain, style, step);
            if (any(4) == 0) {
                same(at + "digest", yard::digest, plain::digest);
            }
        }
        same(run + " taste", yard::taste, plain::taste);
        same(run + " digest", yard::digest, plain::digest);
        Check.due(run + ": too many calls", calls > CALLS ? calls : 0, 0);
    }

    private static void same(String what, Check.Call got, Check.Call due) {
        calls++;
        Check.dueText(what, Check.answer(got), Check.answer(due));
    }

    private static void oneStep(String at, CaskYard yard, PlainYard plain, int style, int step) {
        int casks = (int) plain.count(4);
        int kind = step < 30 ? any(3) / 2 : any(20);
        if (kind == 0) {
            int width = style == 0 ? between(99, 102) : style == 1 ? between(70, 120) : between(100, 120);
            width = any(60) == 0 ? between(20, 120) : width;
            stave(at, yard, plain, width, between(any(3) == 0 ? 0 : 55, 100));
        } else if (kind == 1) {
            int girth = style == 4 ? between(300, 420) : between(300, 330);
            int room = style == 2 ? between(100, 60000) : between(100, 2000);
            int hoops = between(2, 8);
            same(at + "addSort " + girth + " " + room + " " + hoops, () -> yard.addSort(girth, room, hoops),
                    () -> plain.addSort(girth, room, hoops));
        } else if (kind <= 3) {
            months(at, yard, plain, casks);
        } else if (kind <= 8) {
            liquids(at, yard, plain, casks, style);
        } else if (kind <= 13) {
            asks(at, yard, plain, casks);
        } else {
            cooper(at, yard, plain, casks);
        }
    }

    private static void stave(String at, CaskYard yard, PlainYard plain, int width, int dryness) {
        same(at + "addStave " + width + " " + dryness, () -> yard.addStave(width, dryness),
                () -> plain.addStave(width, dryness));
    }

    private static void months(String at, CaskYard yard, PlainYard plain, int casks) {
        int months = any(20) == 0 ? between(1, 60) : between(1, 3);
        int warmth = between(0, 9);
        if (any(4) == 0) {
            same(at + "setWarmth " + warmth, () -> yard.setWarmth(warmth), () -> plain.setWarmth(warmth));
        }
        int cask = any(Math.max(1, casks));
        for (int what = 0; what < 4; what++) {
            int w = what;
            same(at + "foresee " + cask + " " + months + " " + what, () -> yard.foresee(cask, months, w),
                    () -> plain.foresee(cask, months, w));
        }
        same(at + "pass " + months, () -> yard.pass(months), () -> plain.pass(months));
    }

    private static void liquids(String at, CaskYard yard, PlainYard plain, int casks, int style) {
        int from = near(casks);
        int to = any(6) == 0 ? -1 : near(casks);
        int liquid = near(4);
        int most = style == 2 ? 60000 : 1500;
        int amount = any(3) == 0 ? between(1, 20) : between(1, most);
        if (any(3) == 0 && from >= 0 && from < casks && plain.cask(from, 7) > 0) {
            amount = (int) plain.cask(from, 7) - (any(2) == 0 ? 0 : any(3));
        }
        int a = amount;
        if (any(2) == 0) {
            same(at + "fill " + from + " " + liquid + " " + a, () -> yard.fill(from, liquid, a),
                    () -> plain.fill(from, liquid, a));
        } else {
            same(at + "rack " + from + " " + to + " " + a, () -> yard.rack(from, to, a),
                    () -> plain.rack(from, to, a));
        }
    }

    private static void asks(String at, CaskYard yard, PlainYard plain, int casks) {
        int sort = near((int) plain.count(3));
        int index = any(4) == 0 ? near(60) : any(6);
        int stave = near((int) plain.count(1));
        int cask = near(casks);
        int few = near(4);
        int many = near(16);
        int months = between(1, 60);
        int target = any(2) == 0 ? between(0, 1000000) : any(2000);
        same(at + "choose " + sort + " " + index, () -> yard.choose(sort, index), () -> plain.choose(sort, index));
        same(at + "stave " + stave + " " + few, () -> yard.stave(stave, few), () -> plain.stave(stave, few));
        same(at + "cask " + cask + " " + many, () -> yard.cask(cask, many), () -> plain.cask(cask, many));
        same(at + "count " + many, () -> yard.count(many), () -> plain.count(many));
        same(at + "foresee " + cask + " " + months + " " + few, () -> yard.foresee(cask, months, few),
                () -> plain.foresee(cask, months, few));
        same(at + "blend " + target + " " + few, () -> yard.blend(target, few), () -> plain.blend(target, few));
        same(at + "taste", yard::taste, plain::taste);
    }

    private static void cooper(String at, CaskYard yard, PlainYard plain, int casks) {
        int kind = any(8);
        int cask = near(casks);
        int sort = near((int) plain.count(3));
        int stave = near((int) plain.count(1));
        int hoop = near(5);
        int by = between(1, 9);
        if (kind <= 3) {
            same(at + "raise " + sort, () -> yard.raise(sort), () -> plain.raise(sort));
        } else if (kind <= 5) {
            same(at + "drive " + cask + " " + hoop + " " + by, () -> yard.drive(cask, hoop, by),
                    () -> plain.drive(cask, hoop, by));
        } else if (kind == 6) {
            for (int n = 0; n < 4; n++) {
                int x = (stave + n) % 61;
                same(at + "mend " + cask + " " + x, () -> yard.mend(cask, x), () -> plain.mend(cask, x));
            }
        } else if (any(3) == 0) {
            same(at + "breakUp " + cask, () -> yard.breakUp(cask), () -> plain.breakUp(cask));
        }
    }
}
