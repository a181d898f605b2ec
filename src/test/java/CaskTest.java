/** Promises 6 to 10: raise, drive, mend, breakUp, cask. */
public final class CaskTest {
    public static void main(String[] args) {
        raise();
        raiseWrong();
        drive();
        driveCracks();
        driveWrong();
        mend();
        mendFlaw();
        mendLastOfAll();
        mendWrong();
        breakUp();
        breakUpFirstOfAll();
        cask();
        caskWrong();
        Check.end();
    }

    private static void tells(String what, CaskYard yard, int cask, int... due) {
        for (int t = 0; t < 16; t++) {
            Check.due(what + ": cask(" + cask + ", " + t + ")", yard.cask(cask, t), due[t]);
        }
    }

    private static void raise() {
        CaskYard yard = new CaskYard();
        int[] dryness = {69, 70, 60, 100, 55, 70};
        for (int d : dryness) {
            yard.addStave(100, d);
        }
        yard.addSort(500, 400, 2);
        yard.addSort(300, 200, 5);
        Check.due("raise", yard.raise(1), 0);
        tells("raised", yard, 0, 1, 3, 2, 15, 0, 0, 0, 0, 0, 0, 0, 0, 0, 0, 20, 1);
        int[] places = {0, 0, 0, -1, -1, -1};
        for (int s = 0; s < 6; s++) {
            Check.due("the place of " + s, yard.stave(s, 2), places[s]);
            Check.due("the dryness of " + s, yard.stave(s, 1), dryness[s]);
        }
        Check.due("casks", yard.count(4), 1);
        Check.due("staves in the yard", yard.count(2), 3);
        yard.pass(2);
        Check.due("raise", yard.raise(1), 1);
        Check.due("flaws of 100, 63 and 78", yard.cask(1, 2), 1);
    }

    private static void raiseWrong() {
        CaskYard yard = Yards.staves(40);
        yard.addSort(300, 100, 2);
        yard.addSort(1500, 100, 2);
        for (int c = 0; c < 12; c++) {
            Check.due("raise", yard.raise(0), c);
            if (c == 5) {
                yard.breakUp(2);
            }
        }
        Check.due("casks with the broken one", yard.count(4), 12);
        Check.due("sound casks", yard.count(5), 11);
        Check.refused(yard, "a 13th cask", Check.STATE, () -> yard.raise(0));
        Check.refused(yard, "a 13th cask of no sort", Check.INDEX, () -> yard.raise(2));
        CaskYard few = Yards.staves(10);
        few.addSort(300, 100, 2);
        few.addSort(1500, 100, 2);
        Check.refused(few, "no set makes it", Check.STATE, () -> few.raise(1));
        for (int sort : new int[] {-1, 2, 6, Integer.MIN_VALUE, Integer.MAX_VALUE}) {
            Check.refused(few, "raise(" + sort + ")", Check.INDEX, () -> few.raise(sort));
        }
    }

    private static void drive() {
        CaskYard yard = Yards.casks(1, 1000, 8);
        Check.due("by 1", yard.drive(0, 0, 1), 4);
        Check.due("by 5", yard.drive(0, 0, 5), 9);
        Check.due("at most 9", yard.drive(0, 7, 9), 9);
        Check.due("tensions", yard.cask(0, 3), 9 + 9 + 6 * 3);
        Check.due("36 of 40: no flaw", yard.cask(0, 2), 0);
        Check.due("leak", yard.cask(0, 14), 0);
    }

    private static void driveCracks() {
        CaskYard yard = Yards.casks(2, 1000, 2);
        Check.due("drive", yard.drive(0, 0, 4), 7);
        Check.due("10 is not greater than 5 for each", yard.cask(0, 2), 0);
        Check.due("drive", yard.drive(0, 1, 1), 4);
        Check.due("11 is", yard.cask(0, 2), 1);
        Check.due("drive", yard.drive(0, 0, 9), 9);
        Check.due("one flaw more", yard.cask(0, 2), 2);
        Check.due("drive", yard.drive(0, 0, 9), 9);
        Check.due("a hoop at 9 cracks a stave, too", yard.cask(0, 2), 3);
        Check.due("leak", yard.cask(0, 14), 30 + 30 - 26);
        Check.due("the other one is whole", yard.cask(1, 2), 0);
        Check.due("its tensions", yard.cask(1, 3), 6);
    }

    private static void driveWrong() {
        CaskYard yard = Yards.casks(2, 1000, 3);
        yard.breakUp(1);
        int[][] index = {{-1, 0, 1}, {2, 0, 1}, {12, 0, 1}, {0, -1, 1}, {0, 3, 1}, {0, 8, 1}, {1, 0, 1},
            {Integer.MIN_VALUE, 0, 1}, {Integer.MAX_VALUE, 0, 1}, {0, Integer.MIN_VALUE, 1},
            {0, Integer.MAX_VALUE, 1}, {0, 3, 0}, {2, 0, 10}, {1, 0, 0}};
        for (int[] w : index) {
            Check.refused(yard, "drive(" + w[0] + ", " + w[1] + ", " + w[2] + ")", Check.INDEX,
                    () -> yard.drive(w[0], w[1], w[2]));
        }
        for (int by : new int[] {0, 10, -1, Integer.MIN_VALUE, Integer.MAX_VALUE}) {
            Check.refused(yard, "drive by " + by, Check.ARGUMENT, () -> yard.drive(0, 2, by));
        }
    }

    private static void mend() {
        CaskYard yard = Yards.casks(1, 1000, 2);
        yard.addStave(100, 70);
        yard.addStave(100, 30);
        yard.drive(0, 0, 5);
        yard.drive(0, 0, 5);
        Check.due("flaws before", yard.cask(0, 2), 2);
        Check.due("mend", yard.mend(0, 3), 2);
        Check.due("the last one is gone", yard.stave(2, 2), -2);
        Check.due("the other one is in", yard.stave(3, 2), 0);
        Check.due("no flaws", yard.cask(0, 2), 0);
        Check.due("staves", yard.cask(0, 1), 3);
        Check.due("tensions stay", yard.cask(0, 3), 12);
        Check.due("mend", yard.mend(0, 4), 0);
        Check.due("now the one put in is the last", yard.stave(3, 2), -2);
        Check.due("a wet one is a flaw", yard.cask(0, 2), 1);
        Check.due("the first ones stay", yard.stave(0, 2) + yard.stave(1, 2), 0);
    }

    private static void mendFlaw() {
        CaskYard yard = new CaskYard();
        yard.addStave(100, 69);
        yard.addStave(100, 55);
        yard.addStave(100, 61);
        yard.addStave(100, 62);
        yard.addStave(100, 69);
        yard.addSort(300, 1000, 2);
        yard.raise(0);
        Check.due("three flaws", yard.cask(0, 2), 3);
        Check.due("mend with a smaller number", yard.mend(0, 1), 3);
        Check.due("one flaw of the new one alone", yard.cask(0, 2), 1);
        Check.due("the greatest number is gone", yard.stave(3, 2), -2);
        Check.due("its dryness stays", yard.stave(3, 1), 62);
        Check.due("mend", yard.mend(0, 4), 1);
        Check.due("69 is a flaw", yard.cask(0, 2), 1);
        Check.due("the greatest number of the rest is gone", yard.stave(2, 2), -2);
        Check.due("the smaller one is in", yard.stave(1, 2), 0);
    }

    private static void mendLastOfAll() {
        CaskYard yard = new CaskYard();
        yard.addStave(100, 56);
        for (int s = 0; s < 3; s++) {
            yard.addStave(100, 100);
        }
        yard.addSort(300, 1000, 2);
        yard.raise(0);
        Check.due("mend", yard.mend(0, 0), 0);
        Check.due("the last of all staves is gone", yard.stave(3, 2), -2);
        Check.due("the one before stays", yard.stave(2, 2), 0);
        Check.due("the first of all staves is in", yard.stave(0, 2), 0);
        Check.due("flaws", yard.cask(0, 2), 1);
    }

    private static void mendWrong() {
        CaskYard yard = Yards.casks(2, 1000, 2);
        yard.addStave(100, 100);
        yard.addStave(99, 100);
        int[][] index = {{-1, 6}, {2, 6}, {0, -1}, {0, 8}, {Integer.MAX_VALUE, 6}, {0, Integer.MAX_VALUE},
            {Integer.MIN_VALUE, 6}, {0, Integer.MIN_VALUE}};
        for (int[] w : index) {
            Check.refused(yard, "mend(" + w[0] + ", " + w[1] + ")", Check.INDEX, () -> yard.mend(w[0], w[1]));
        }
        Check.refused(yard, "another width", Check.STATE, () -> yard.mend(0, 7));
        Check.refused(yard, "in the same cask", Check.STATE, () -> yard.mend(0, 2));
        Check.refused(yard, "in another cask", Check.STATE, () -> yard.mend(0, 3));
        yard.fill(0, 0, 1);
        Check.refused(yard, "it holds something", Check.STATE, () -> yard.mend(0, 6));
        Check.refused(yard, "it holds something, no such stave", Check.INDEX, () -> yard.mend(0, 8));
        yard.rack(0, -1, 1);
        yard.breakUp(1);
        Check.refused(yard, "broken up", Check.STATE, () -> yard.mend(1, 6));
        Check.refused(yard, "broken up, no such stave", Check.INDEX, () -> yard.mend(1, 8));
        Check.refused(yard, "gone", Check.STATE, () -> yard.mend(0, 3));
        Check.due("empty again", yard.mend(0, 4), 0);
    }

    private static void breakUp() {
        CaskYard yard = new CaskYard();
        yard.addStave(40, 10);
        yard.addStave(100, 100);
        yard.addStave(100, 60);
        yard.addStave(100, 75);
        yard.addStave(100, 28);
        yard.addSort(300, 1000, 4);
        yard.raise(0);
        yard.mend(0, 4);
        yard.fill(0, 2, 300);
        yard.fill(0, 0, 200);
        yard.pass(1);
        int held = yard.cask(0, 7);
        Check.due("what was spilled", yard.breakUp(0), held);
        Check.due("it held something", held > 0 ? 1 : 0, 1);
        tells("broken up", yard, 0, 0, 0, 0, 0, 0, 0, 0, 0, 0, 0, 0, 0, 0, 0, 0, 0);
        int[] places = {-1, -2, -1, -2, -1};
        int[] dryness = {14, 70, 30, 75, 0};
        for (int s = 0; s < 5; s++) {
            Check.due("the place of " + s, yard.stave(s, 2), places[s]);
            Check.due("the dryness of " + s, yard.stave(s, 1), dryness[s]);
        }
        Check.due("spilled is not lost", yard.count(8), 500 - held);
        Check.refused(yard, "broken up", Check.STATE, () -> yard.breakUp(0));
        for (int cask : new int[] {-1, 1, 12, Integer.MIN_VALUE, Integer.MAX_VALUE}) {
            Check.refused(yard, "breakUp(" + cask + ")", Check.INDEX, () -> yard.breakUp(cask));
        }
    }

    private static void breakUpFirstOfAll() {
        CaskYard yard = Yards.casks(2, 1000, 2);
        Check.due("nothing spilled", yard.breakUp(0), 0);
        int[] places = {-2, -1, -1, 1, 1, 1};
        for (int s = 0; s < 6; s++) {
            Check.due("the place of " + s, yard.stave(s, 2), places[s]);
            Check.due("the dryness of " + s, yard.stave(s, 1), s < 3 ? 70 : 100);
        }
        Check.due("the other cask stays", yard.cask(1, 15), 1);
        Check.due("its staves", yard.cask(1, 1), 3);
    }

    private static void cask() {
        CaskYard yard = new CaskYard();
        for (int s = 0; s < 6; s++) {
            yard.addStave(100, s == 2 ? 60 : 100);
        }
        yard.addSort(1000, 100, 2);
        yard.addSort(300, 1000, 3);
        yard.raise(1);
        yard.raise(1);
        for (int l = 0; l < 4; l++) {
            yard.fill(0, l, 200 + l);
        }
        yard.drive(0, 1, 2);
        tells("filled", yard, 0, 1, 3, 1, 11, 0, 1, 0, 806, 200, 201, 202, 203, 0, 0, 18, 1);
        yard.pass(1);
        // leak 40 - 22 - 5 = 13, with 3 and the warmth 18 thousandths: 3 of each
        tells("a month later", yard, 0, 1, 3, 1, 11, 5, 1, 1, 794, 197, 198, 199, 200, 0, 56, 13, 1);
        yard.pass(5);
        Check.due("vinegar", yard.cask(0, 12), yard.cask(0, 7));
        Check.due("vinegar alone", yard.cask(0, 8) + yard.cask(0, 9) + yard.cask(0, 10) + yard.cask(0, 11), 0);
        tells("the other one", yard, 1, 1, 3, 0, 9, 0, 0, 0, 0, 0, 0, 0, 0, 0, 0, 12, 1);
        CaskYard sorts = Yards.staves(3);
        for (int sort = 0; sort < 6; sort++) {
            sorts.addSort(sort < 5 ? 400 : 300, 1000, 2);
        }
        sorts.raise(5);
        Check.due("its sort", sorts.cask(0, 0), 5);
        sorts.breakUp(0);
        Check.due("its sort, broken up", sorts.cask(0, 0), 5);
    }

    private static void caskWrong() {
        CaskYard yard = Yards.casks(2, 1000, 3);
        int[][] wrong = {{-1, 0}, {2, 0}, {12, 0}, {0, -1}, {0, 16}, {Integer.MIN_VALUE, 0}, {Integer.MAX_VALUE, 0},
            {0, Integer.MIN_VALUE}, {0, Integer.MAX_VALUE}};
        for (int[] w : wrong) {
            Check.refused(yard, "cask(" + w[0] + ", " + w[1] + ")", Check.INDEX, () -> yard.cask(w[0], w[1]));
        }
    }
}
