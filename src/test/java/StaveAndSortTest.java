/** Promises 1 to 5: a new object, addStave, stave, addSort, choose. */
public final class StaveAndSortTest {
    public static void main(String[] args) {
        newYard();
        addStave();
        addStaveEdges();
        stave();
        addSort();
        addSortEdges();
        chooseFewest();
        chooseLeastSum();
        chooseSmallestNumbers();
        chooseGirthEdges();
        chooseDryInYard();
        chooseMany();
        chooseWrong();
        Check.end();
    }

    private static void newYard() {
        CaskYard used = Yards.casks(2, 1000, 4);
        used.fill(0, 0, 900);
        used.setWarmth(9);
        used.pass(3);
        CaskYard yard = new CaskYard();
        int[] due = {0, 0, 0, 0, 0, 0, 0, 0, 0, 2};
        long digest = 487;
        for (int what = 0; what < due.length; what++) {
            Check.due("new count(" + what + ")", yard.count(what), due[what]);
            digest = digest * 31 + due[what];
        }
        Check.due("new digest", yard.digest(), digest);
        Check.dueDouble("new taste", yard.taste(), 0.0);
        Check.due("new blend", yard.blend(0, 0), -1);
        Check.refused(yard, "stave in a new yard", Check.INDEX, () -> yard.stave(0, 0));
        Check.refused(yard, "choose in a new yard", Check.INDEX, () -> yard.choose(0, 0));
        Check.refused(yard, "raise in a new yard", Check.INDEX, () -> yard.raise(0));
        Check.refused(yard, "cask in a new yard", Check.INDEX, () -> yard.cask(0, 0));
    }

    private static void addStave() {
        CaskYard yard = new CaskYard();
        for (int s = 0; s < 60; s++) {
            Check.due("addStave", yard.addStave(20 + s, 40 + s), s);
            Check.due("staves", yard.count(1), s + 1);
        }
        Check.due("its width", yard.stave(59, 0), 79);
        Check.due("its dryness", yard.stave(59, 1), 99);
        Check.due("it is in the yard", yard.stave(59, 2), -1);
        Check.refused(yard, "a 61st stave", Check.STATE, () -> yard.addStave(50, 50));
        Check.refused(yard, "a 61st stave, too narrow", Check.ARGUMENT, () -> yard.addStave(19, 50));
        Check.refused(yard, "a 61st stave, too dry", Check.ARGUMENT, () -> yard.addStave(50, 101));
    }

    private static void addStaveEdges() {
        CaskYard yard = new CaskYard();
        Check.due("the narrowest", yard.addStave(20, 0), 0);
        Check.due("the widest", yard.addStave(120, 100), 1);
        int[][] wrong = {{19, 50}, {121, 50}, {-50, 50}, {50, -1}, {50, 101},
            {Integer.MIN_VALUE, 50}, {Integer.MAX_VALUE, 50}, {50, Integer.MIN_VALUE}, {50, Integer.MAX_VALUE}};
        for (int[] w : wrong) {
            Check.refused(yard, "addStave(" + w[0] + ", " + w[1] + ")", Check.ARGUMENT,
                    () -> yard.addStave(w[0], w[1]));
        }
    }

    private static void stave() {
        CaskYard yard = new CaskYard();
        yard.addStave(33, 12);
        for (int s = 0; s < 7; s++) {
            yard.addStave(100, 80 + s);
        }
        yard.addSort(300, 100, 2);
        yard.raise(0);
        yard.raise(0);
        int[] places = {-1, 0, 0, 0, 1, 1, 1, -1};
        for (int s = 0; s < 8; s++) {
            Check.due("the place of " + s, yard.stave(s, 2), places[s]);
            Check.due("the width of " + s, yard.stave(s, 0), s == 0 ? 33 : 100);
            Check.due("the dryness of " + s, yard.stave(s, 1), s == 0 ? 12 : 79 + s);
        }
        yard.breakUp(1);
        Check.due("gone", yard.stave(4, 2), -2);
        Check.due("its width", yard.stave(4, 0), 100);
        Check.due("in the yard again", yard.stave(5, 2), -1);
        int[][] wrong = {{-1, 0}, {8, 0}, {60, 0}, {Integer.MAX_VALUE, 0}, {Integer.MIN_VALUE, 0},
            {0, -1}, {0, 3}, {0, Integer.MAX_VALUE}};
        for (int[] w : wrong) {
            Check.refused(yard, "stave(" + w[0] + ", " + w[1] + ")", Check.INDEX, () -> yard.stave(w[0], w[1]));
        }
    }

    private static void addSort() {
        CaskYard yard = new CaskYard();
        for (int s = 0; s < 6; s++) {
            Check.due("addSort", yard.addSort(300 + s, 100 + s, 2 + s), s);
            Check.due("sorts", yard.count(3), s + 1);
        }
        Check.due("digest of sorts", yard.digest(), Yards.digest(yard, new int[][] {{300, 100, 2}, {301, 101, 3},
            {302, 102, 4}, {303, 103, 5}, {304, 104, 6}, {305, 105, 7}}, new int[0][]));
        Check.refused(yard, "a 7th sort", Check.STATE, () -> yard.addSort(400, 400, 4));
        Check.refused(yard, "a 7th sort, wrong", Check.ARGUMENT, () -> yard.addSort(400, 400, 9));
    }

    private static void addSortEdges() {
        CaskYard yard = new CaskYard();
        Check.due("the least", yard.addSort(300, 100, 2), 0);
        Check.due("the greatest", yard.addSort(1500, 60000, 8), 1);
        int[][] wrong = {{299, 500, 4}, {1501, 500, 4}, {500, 99, 4}, {500, 60001, 4}, {500, 500, 1}, {500, 500, 9},
            {Integer.MAX_VALUE, 500, 4}, {500, Integer.MAX_VALUE, 4}, {500, 500, Integer.MAX_VALUE},
            {Integer.MIN_VALUE, 500, 4}, {500, Integer.MIN_VALUE, 4}, {500, 500, Integer.MIN_VALUE}};
        for (int[] w : wrong) {
            Check.refused(yard, "addSort(" + w[0] + ", " + w[1] + ", " + w[2] + ")", Check.ARGUMENT,
                    () -> yard.addSort(w[0], w[1], w[2]));
        }
    }

    /** A yard with dry staves of these widths and a sort of this girth. */
    private static CaskYard yard(int girth, int... widths) {
        CaskYard yard = new CaskYard();
        for (int width : widths) {
            yard.addStave(width, 100);
        }
        yard.addSort(girth, 1000, 4);
        return yard;
    }

    private static void chosen(String what, CaskYard yard, int... due) {
        long before = yard.digest();
        for (int index = 0; index < 60; index++) {
            Check.due(what + ": choose(0, " + index + ")", yard.choose(0, index),
                    index < due.length ? due[index] : -1);
        }
        Check.due(what + " changes nothing", yard.digest(), before);
    }

    private static void chooseFewest() {
        chosen("fewest, though first numbers make it", yard(300, 75, 75, 75, 75, 100, 100, 100), 4, 5, 6);
        chosen("fewest, though the sum is greater", yard(300, 75, 75, 75, 75, 101, 101, 102), 4, 5, 6);
    }

    private static void chooseLeastSum() {
        chosen("least sum of as many", yard(300, 101, 101, 101, 100, 100), 0, 3, 4);
        chosen("least sum with greater numbers", yard(300, 102, 102, 100, 99, 101, 103), 2, 3, 4);
    }

    private static void chooseSmallestNumbers() {
        chosen("smallest first number", yard(300, 80, 100, 100, 100, 120), 0, 1, 4);
        chosen("smallest second number", yard(300, 100, 120, 100, 100, 80), 0, 1, 4);
        chosen("all alike", yard(300, 100, 100, 100, 100), 0, 1, 2);
        chosen("smallest last number", yard(300, 90, 90, 120, 120), 0, 1, 2);
    }

    private static void chooseGirthEdges() {
        chosen("4 more", yard(300, 101, 101, 102), 0, 1, 2);
        chosen("5 more", yard(300, 101, 102, 102));
        chosen("1 less", yard(300, 100, 100, 99));
        chosen("the girth", yard(300, 100, 100, 100), 0, 1, 2);
        chosen("no stave", yard(300));
        chosen("one stave is not taken twice", yard(300, 100, 100));
    }

    private static void chooseDryInYard() {
        CaskYard yard = new CaskYard();
        yard.addStave(100, 59);
        yard.addStave(100, 60);
        yard.addStave(100, 56);
        yard.addStave(100, 61);
        yard.addStave(100, 60);
        yard.addSort(300, 1000, 4);
        chosen("60 is dry, 59 is not", yard, 1, 3, 4);
        yard.raise(0);
        chosen("those in a cask are not taken", yard);
        yard.addStave(100, 100);
        yard.pass(1);
        chosen("56 and 59 are dry a month later", yard, 0, 2, 5);
        yard.breakUp(0);
        chosen("broken up they are too wet", yard, 0, 2, 5);
        yard.pass(7);
        chosen("with 58 and 59 they are too wet still", yard, 0, 2, 5);
        yard.pass(1);
        chosen("dry again, and the first one is gone", yard, 0, 2, 3);
    }

    private static void chooseMany() {
        CaskYard yard = new CaskYard();
        for (int s = 0; s < 60; s++) {
            yard.addStave(20, 60 + s % 41);
        }
        yard.addSort(1200, 1000, 4);
        yard.addSort(1500, 1000, 4);
        for (int s = 0; s < 60; s++) {
            Check.due("all 60 staves", yard.choose(0, s), s);
            Check.due("not even 60 staves", yard.choose(1, s), -1);
        }
        CaskYard wide = new CaskYard();
        for (int s = 0; s < 60; s++) {
            wide.addStave(s == 59 ? 64 : 120, 100);
        }
        wide.addSort(1500, 60000, 8);
        for (int s = 0; s < 13; s++) {
            Check.due("the greatest girth and 4", wide.choose(0, s), s < 12 ? s : 59);
        }
        Check.due("no 14th", wide.choose(0, 13), -1);
    }

    private static void chooseWrong() {
        CaskYard yard = yard(300, 100, 100, 100);
        int[][] wrong = {{-1, 0}, {1, 0}, {6, 0}, {Integer.MIN_VALUE, 0}, {Integer.MAX_VALUE, 0}, {0, -1}, {0, 60},
            {0, Integer.MIN_VALUE}, {0, Integer.MAX_VALUE}};
        for (int[] w : wrong) {
            Check.refused(yard, "choose(" + w[0] + ", " + w[1] + ")", Check.INDEX, () -> yard.choose(w[0], w[1]));
        }
    }
}
