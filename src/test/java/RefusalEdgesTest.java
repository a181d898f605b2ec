import java.util.ArrayList;
import java.util.List;

/**
 * "A method that throws an exception changes nothing. If several exceptions
 * apply, the one that is named first is thrown.": each call that is refused is
 * made on a yard that is full of everything, and this yard answers afterwards
 * what one answers on which the call was never made.
 */
public final class RefusalEdgesTest {
    interface Call {
        Object on(CaskYard yard);
    }

    private static final int FULL = 0;
    private static final int HALF = 1;
    private static final int EMPTY = 2;
    private static final int BROKEN = 3;
    private static final int LEAST = Integer.MIN_VALUE;
    private static final int MOST = Integer.MAX_VALUE;

    public static void main(String[] args) {
        Doc.says(Doc.TERMS, "A method that throws an exception changes nothing. "
                + "If several exceptions apply, the one that is named first is thrown.");
        staves();
        sorts();
        raises();
        drives();
        mends();
        casks();
        fills();
        racks();
        months();
        foresights();
        blends();
        Check.end();
    }

    /** Sixty staves, six sorts, so many casks, the month 1199; none of the sorts but 0 and 1 can be made. */
    private static CaskYard crowded(int casks) {
        CaskYard yard = new CaskYard();
        for (int n = 0; n < 20; n++) {
            yard.pass(n == 0 ? 59 : 60);
        }
        for (int s = 0; s < 60; s++) {
            yard.addStave(s < 59 ? 100 : 99, s == 1 ? 61 : 100);
        }
        yard.addSort(300, 1000, 2);
        yard.addSort(1500, 60000, 8);
        for (int sort = 2; sort < 6; sort++) {
            yard.addSort(350 + 100 * sort, 500, 3);
        }
        for (int cask = 0; cask < casks; cask++) {
            yard.raise(0);
            yard.fill(cask, cask % 4, 1000 - 7 * cask);
        }
        yard.rack(HALF, -1, 500);
        yard.rack(EMPTY, -1, 986);
        yard.breakUp(BROKEN);
        yard.drive(HALF, 1, 5);
        yard.setWarmth(4);
        return yard;
    }

    private static void refused(int casks, String what, Class<? extends RuntimeException> due, Call call) {
        CaskYard yard = crowded(casks);
        Check.dueText(what, Check.answer(() -> call.on(yard)), "throws." + due.getSimpleName());
        List<String> got = answers(yard);
        List<String> same = answers(crowded(casks));
        for (int n = 0; n < same.size(); n++) {
            Check.dueText("answer " + n + " behind " + what, got.get(n), same.get(n));
        }
    }

    private static void refused(String what, Class<? extends RuntimeException> due, Call call) {
        refused(12, what, due, call);
    }

    /** What the yard tells, and how it goes on. */
    private static List<String> answers(CaskYard yard) {
        List<Call> calls = new ArrayList<>();
        calls.add(CaskYard::digest);
        calls.add(CaskYard::taste);
        for (int what = 0; what < 4; what++) {
            int w = what;
            calls.add(x -> x.blend(100, w));
            calls.add(x -> x.foresee(FULL, 1, w));
            calls.add(x -> x.foresee(BROKEN, 1, w));
            calls.add(x -> x.choose(w, w));
        }
        calls.add(x -> x.mend(EMPTY, 58));
        calls.add(x -> x.drive(FULL, 1, 3));
        calls.add(x -> x.rack(FULL, EMPTY, 333));
        calls.add(x -> x.rack(HALF, -1, 1));
        calls.add(x -> x.fill(HALF, 3, 10));
        calls.add(x -> x.breakUp(4));
        calls.add(x -> x.raise(0));
        calls.add(x -> x.pass(1));
        calls.add(x -> x.setWarmth(1));
        calls.add(x -> x.addStave(100, 100));
        calls.add(x -> x.addSort(400, 400, 4));
        calls.add(x -> x.blend(0, 3));
        calls.add(CaskYard::taste);
        calls.add(CaskYard::digest);
        List<String> answers = new ArrayList<>();
        for (Call call : calls) {
            answers.add(Check.answer(() -> call.on(yard)));
        }
        return answers;
    }

    private static void staves() {
        refused("a 61st stave", Check.STATE, x -> x.addStave(100, 100));
        int[][] wrong = {{19, 100}, {121, 100}, {100, -1}, {100, 101}, {LEAST, LEAST}, {MOST, MOST}};
        for (int[] w : wrong) {
            refused("a 61st stave " + w[0] + " " + w[1], Check.ARGUMENT, x -> x.addStave(w[0], w[1]));
        }
        int[][] none = {{-1, 0}, {60, 0}, {0, -1}, {59, 3}, {LEAST, LEAST}, {MOST, MOST}};
        for (int[] w : none) {
            refused("stave " + w[0] + " " + w[1], Check.INDEX, x -> x.stave(w[0], w[1]));
        }
    }

    private static void sorts() {
        refused("a 7th sort", Check.STATE, x -> x.addSort(300, 100, 2));
        int[][] wrong = {{299, 100, 2}, {1501, 100, 2}, {300, 99, 2}, {300, 60001, 2}, {300, 100, 1}, {300, 100, 9},
            {LEAST, LEAST, LEAST}, {MOST, MOST, MOST}};
        for (int[] w : wrong) {
            refused("a 7th sort " + w[0] + " " + w[1] + " " + w[2], Check.ARGUMENT,
                    x -> x.addSort(w[0], w[1], w[2]));
        }
        int[][] none = {{-1, 0}, {6, 0}, {0, -1}, {5, 60}, {LEAST, LEAST}, {MOST, MOST}};
        for (int[] w : none) {
            refused("choose " + w[0] + " " + w[1], Check.INDEX, x -> x.choose(w[0], w[1]));
        }
    }

    private static void raises() {
        for (int casks : new int[] {4, 11, 12}) {
            for (int sort : new int[] {-1, 6, LEAST, MOST}) {
                refused(casks, "raise of sort " + sort, Check.INDEX, x -> x.raise(sort));
            }
            refused(casks, "raise without a set", Check.STATE, x -> x.raise(5));
        }
        refused("a 13th cask", Check.STATE, x -> x.raise(0));
        refused("a 13th cask of the other sort", Check.STATE, x -> x.raise(1));
    }

    private static void drives() {
        for (int by : new int[] {0, 10, -1, LEAST, MOST}) {
            refused("drive by " + by, Check.ARGUMENT, x -> x.drive(FULL, 0, by));
            refused("drive of a cracked one by " + by, Check.ARGUMENT, x -> x.drive(HALF, 1, by));
        }
        for (int by : new int[] {1, 9, 0, 10}) {
            int[][] none = {{-1, 0}, {12, 0}, {BROKEN, 0}, {FULL, -1}, {FULL, 2}, {FULL, 8}, {LEAST, LEAST},
                {MOST, MOST}};
            for (int[] n : none) {
                refused("drive " + n[0] + " " + n[1] + " by " + by, Check.INDEX, x -> x.drive(n[0], n[1], by));
            }
        }
    }

    private static void mends() {
        int[][] none = {{-1, 58}, {12, 58}, {EMPTY, -1}, {EMPTY, 60}, {BROKEN, 60}, {BROKEN, -1}, {FULL, 60},
            {FULL, -1}, {-1, -1}, {LEAST, 0}, {MOST, 0}};
        for (int[] n : none) {
            refused("mend " + n[0] + " " + n[1], Check.INDEX, x -> x.mend(n[0], n[1]));
        }
        int[][] wrong = {{BROKEN, 58}, {BROKEN, 11}, {BROKEN, 59}, {FULL, 58}, {HALF, 58}, {FULL, 0}, {EMPTY, 0},
            {EMPTY, 8}, {EMPTY, 59}};
        for (int[] w : wrong) {
            refused("mend " + w[0] + " " + w[1], Check.STATE, x -> x.mend(w[0], w[1]));
        }
    }

    private static void casks() {
        refused("a broken one broken up", Check.STATE, x -> x.breakUp(BROKEN));
        for (int cask : new int[] {-1, 12, LEAST, MOST}) {
            refused("breakUp of " + cask, Check.INDEX, x -> x.breakUp(cask));
            refused("cask " + cask, Check.INDEX, x -> x.cask(cask, 0));
            refused("cask " + cask, Check.INDEX, x -> x.cask(cask, 16));
        }
        for (int what : new int[] {-1, 16, LEAST, MOST}) {
            refused("cask what " + what, Check.INDEX, x -> x.cask(FULL, what));
            refused("broken cask what " + what, Check.INDEX, x -> x.cask(BROKEN, what));
        }
        for (int what : new int[] {-1, 10, LEAST, MOST}) {
            refused("count " + what, Check.INDEX, x -> x.count(what));
        }
    }

    private static void fills() {
        for (int cask : new int[] {-1, 12, LEAST, MOST}) {
            refused("fill of " + cask, Check.INDEX, x -> x.fill(cask, 0, 1));
            refused("fill of " + cask + ", wrong liquid", Check.INDEX, x -> x.fill(cask, 4, 1));
            refused("fill of " + cask + ", wrong amount", Check.INDEX, x -> x.fill(cask, 0, 0));
        }
        int[][] wrong = {{-1, 1}, {4, 1}, {0, 0}, {0, -1}, {0, 60001}, {LEAST, LEAST}, {MOST, MOST}};
        for (int cask : new int[] {FULL, HALF, EMPTY, BROKEN}) {
            for (int[] w : wrong) {
                refused("fill of " + cask + " " + w[0] + " " + w[1], Check.ARGUMENT, x -> x.fill(cask, w[0], w[1]));
            }
        }
        refused("fill of a full one", Check.STATE, x -> x.fill(FULL, 0, 1));
        refused("fill of a half full one", Check.STATE, x -> x.fill(HALF, 1, 508));
        refused("fill of an empty one", Check.STATE, x -> x.fill(EMPTY, 0, 1001));
        refused("fill of a broken one", Check.STATE, x -> x.fill(BROKEN, 0, 1));
    }

    private static void racks() {
        int[][] none = {{-1, FULL, 1}, {12, FULL, 1}, {FULL, -2, 1}, {FULL, 12, 1}, {-1, -1, 1}, {12, 12, 1},
            {12, -1, 1}, {FULL, 12, 0}, {12, FULL, 60001}, {BROKEN, 12, 1}, {12, BROKEN, 0}, {LEAST, MOST, 1}};
        for (int[] n : none) {
            refused("rack " + n[0] + " " + n[1] + " " + n[2], Check.INDEX, x -> x.rack(n[0], n[1], n[2]));
        }
        int[][] wrong = {{FULL, FULL, 1}, {FULL, FULL, 0}, {BROKEN, BROKEN, 1}, {EMPTY, EMPTY, 1}, {FULL, HALF, 0},
            {FULL, HALF, 60001}, {FULL, -1, 0}, {FULL, -1, 60001}, {BROKEN, FULL, 0}, {FULL, BROKEN, 60001},
            {EMPTY, FULL, 0}, {EMPTY, -1, 60001}, {FULL, HALF, LEAST}, {FULL, HALF, MOST}};
        for (int[] w : wrong) {
            refused("rack " + w[0] + " " + w[1] + " " + w[2], Check.ARGUMENT, x -> x.rack(w[0], w[1], w[2]));
        }
        int[][] refused = {{BROKEN, FULL, 1}, {FULL, BROKEN, 1}, {BROKEN, -1, 1}, {EMPTY, FULL, 1}, {EMPTY, -1, 1},
            {FULL, EMPTY, 1001}, {FULL, -1, 1001}, {HALF, FULL, 1}, {FULL, HALF, 508}, {BROKEN, EMPTY, 60000}};
        for (int[] r : refused) {
            refused("rack " + r[0] + " " + r[1] + " " + r[2], Check.STATE, x -> x.rack(r[0], r[1], r[2]));
        }
    }

    private static void months() {
        for (int months : new int[] {0, -1, 61, 1200, LEAST, MOST}) {
            refused("pass " + months, Check.ARGUMENT, x -> x.pass(months));
        }
        for (int months : new int[] {2, 3, 59, 60}) {
            refused("pass " + months, Check.STATE, x -> x.pass(months));
        }
        for (int warmth : new int[] {-1, 10, LEAST, MOST}) {
            refused("setWarmth " + warmth, Check.ARGUMENT, x -> x.setWarmth(warmth));
        }
    }

    private static void foresights() {
        int[][] none = {{-1, 1, 0}, {12, 1, 0}, {FULL, 1, -1}, {FULL, 1, 4}, {12, 0, 0}, {12, 61, 0}, {12, 2, 0},
            {FULL, 0, 4}, {FULL, 61, -1}, {FULL, 2, 4}, {LEAST, LEAST, LEAST}, {MOST, MOST, MOST}};
        for (int[] n : none) {
            refused("foresee " + n[0] + " " + n[1] + " " + n[2], Check.INDEX, x -> x.foresee(n[0], n[1], n[2]));
        }
        for (int cask : new int[] {FULL, EMPTY, BROKEN}) {
            for (int months : new int[] {0, -1, 61, LEAST, MOST}) {
                refused("foresee " + cask + " " + months, Check.ARGUMENT, x -> x.foresee(cask, months, 0));
            }
            for (int months : new int[] {2, 60}) {
                refused("foresee " + cask + " " + months, Check.STATE, x -> x.foresee(cask, months, 0));
            }
        }
    }

    private static void blends() {
        for (int target : new int[] {-1, 1000001, LEAST, MOST}) {
            for (int what : new int[] {0, 3, -1, 4, LEAST, MOST}) {
                refused("blend " + target + " " + what, Check.ARGUMENT, x -> x.blend(target, what));
            }
        }
        for (int what : new int[] {-1, 4, LEAST, MOST}) {
            refused("blend what " + what, Check.INDEX, x -> x.blend(0, what));
            refused("blend what " + what, Check.INDEX, x -> x.blend(1000000, what));
        }
    }
}
