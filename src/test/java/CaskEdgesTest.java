/** The edges that the document names for casks: the terms, and promises 6 to 10. */
public final class CaskEdgesTest {
    public static void main(String[] args) {
        mostCasks();
        brokenCasksAreCounted();
        noSetMakesIt();
        rowOfSortsToRaise();
        flawsBelow70();
        atFirst();
        tensionAtMost9();
        tensionAtLeast0();
        crackAboveFiveForEach();
        crackOfAHoopAt9();
        rowOfCasksToDrive();
        rowOfHoops();
        leastAndMostBy();
        mendTakesTheGreatestNumber();
        mendFlawBelow70();
        mendEndsAllFlaws();
        mendOfAnEmptyCask();
        mendInTheYardAlone();
        mendOfTheSameWidth();
        mendOfABrokenCask();
        rowsToMend();
        breakUpNotBelow0();
        breakUpFirstIsGone();
        breakUpSpills();
        breakUpTwice();
        rowOfCasksToBreakUp();
        brokenCaskHasNothing();
        rowOfCasks();
        tellsOfACask();
        Doc.refusalsAreQuoted(6, 10);
        Check.end();
    }

    private static void tells(String what, CaskYard yard, int cask, int... due) {
        for (int t = 0; t < 16; t++) {
            Check.due(what + ": cask(" + cask + ", " + t + ")", yard.cask(cask, t), due[t]);
        }
    }

    /** A yard with staves of these drynesses, of the first three of which there is a cask. */
    private static CaskYard raised(int... dryness) {
        CaskYard yard = new CaskYard();
        for (int d : dryness) {
            yard.addStave(100, d);
        }
        yard.addSort(300, 1000, 2);
        Check.due("raise", yard.raise(0), 0);
        return yard;
    }

    private static void mostCasks() {
        Doc.says(Doc.TERMS, "There are at most 12, numbered likewise. A cask has its staves");
        Doc.says(6, "there are 12");
        CaskYard yard = Yards.staves(39);
        yard.addSort(300, 100, 2);
        for (int c = 0; c < 12; c++) {
            Check.due("the number of a cask", yard.raise(0), c);
            Check.due("casks", yard.count(4), c + 1);
        }
        Check.due("there are staves for one more", yard.choose(0, 2), 38);
        Check.refused(yard, "the 13th cask", Check.STATE, () -> yard.raise(0));
        Check.due("12 casks", yard.count(4), 12);
        Check.due("3 staves in the yard", yard.count(2), 3);
        Check.due("the 12th is filled", yard.fill(11, 0, 100), 100);
    }

    private static void brokenCasksAreCounted() {
        Doc.says(Doc.TERMS, "keeps its number");
        Doc.says(15, "4 casks (those that are broken up, too), 5 sound casks");
        CaskYard yard = Yards.staves(45);
        yard.addSort(300, 100, 2);
        for (int c = 0; c < 12; c++) {
            Check.due("the number of a cask", yard.raise(0), c);
            Check.due("broken up", yard.breakUp(c), 0);
            Check.due("casks", yard.count(4), c + 1);
            Check.due("sound casks", yard.count(5), 0);
        }
        Check.due("there are staves for one more", yard.choose(0, 0) >= 0 ? 1 : 0, 1);
        Check.refused(yard, "the 13th cask", Check.STATE, () -> yard.raise(0));
    }

    private static void noSetMakesIt() {
        Doc.says(6, "no set of staves makes it");
        CaskYard yard = Yards.staves(5);
        yard.addSort(300, 100, 2);
        Check.due("of three staves", yard.raise(0), 0);
        Check.refused(yard, "of two staves", Check.STATE, () -> yard.raise(0));
        yard.addStave(99, 100);
        Check.refused(yard, "1 less than the girth", Check.STATE, () -> yard.raise(0));
        yard.addStave(105, 100);
        Check.due("4 more than the girth", yard.raise(0), 1);
        CaskYard none = new CaskYard();
        none.addSort(300, 100, 2);
        Check.refused(none, "of no staves", Check.STATE, () -> none.raise(0));
    }

    private static void rowOfSortsToRaise() {
        Doc.says(6, "there is no such sort");
        CaskYard yard = Yards.staves(9);
        yard.addSort(300, 100, 2);
        yard.addSort(300, 100, 3);
        for (int sort : new int[] {-1, Integer.MIN_VALUE, 2, 5, 6, Integer.MAX_VALUE}) {
            Check.refused(yard, "sort " + sort, Check.INDEX, () -> yard.raise(sort));
        }
        Check.due("a refused cask takes no number", yard.raise(1), 0);
        Check.due("the first sort", yard.raise(0), 1);
        Check.due("hoops of the last sort", yard.cask(0, 3), 9);
        Check.due("hoops of the first sort", yard.cask(1, 3), 6);
    }

    private static void flawsBelow70() {
        Doc.says(Doc.TERMS, "so many of them had a dryness of less than 70 when they came into it");
        Check.due("70, 71, 100", raised(70, 71, 100).cask(0, 2), 0);
        Check.due("69, 70, 100", raised(69, 70, 100).cask(0, 2), 1);
        Check.due("60, 69, 70", raised(60, 69, 70).cask(0, 2), 2);
        Check.due("60, 68, 69", raised(60, 68, 69).cask(0, 2), 3);
        CaskYard yard = raised(69, 69, 69, 69);
        yard.pass(1);
        Check.due("they don't get drier in it", yard.cask(0, 2), 3);
    }

    private static void atFirst() {
        Doc.says(Doc.TERMS, "each with a tension, 0 to 9 (3, at first)");
        Doc.says(Doc.TERMS, "a swelling, 0 to 20 (0, at first)");
        for (int hoops = 2; hoops <= 8; hoops++) {
            CaskYard yard = Yards.casks(1, 100, hoops);
            int leak = Math.max(0, 30 - 6 * hoops);
            tells(hoops + " hoops", yard, 0, 0, 3, 0, 3 * hoops, 0, 0, 0, 0, 0, 0, 0, 0, 0, 0, leak, 1);
        }
    }

    private static void tensionAtMost9() {
        Doc.says(7, "Returns its tension then, at most 9.");
        int[] due = {4, 5, 6, 7, 8, 9, 9, 9, 9};
        for (int by = 1; by <= 9; by++) {
            CaskYard yard = Yards.casks(1, 100, 8);
            Check.due("3 and " + by, yard.drive(0, 0, by), due[by - 1]);
            Check.due("all tensions", yard.cask(0, 3), due[by - 1] + 21);
        }
        CaskYard yard = Yards.casks(1, 100, 8);
        Check.due("8", yard.drive(0, 7, 5), 8);
        Check.due("9", yard.drive(0, 7, 1), 9);
        Check.due("9 still", yard.drive(0, 7, 1), 9);
        Check.due("9 still", yard.drive(0, 7, 9), 9);
        Check.due("the others are 3", yard.cask(0, 3), 30);
    }

    private static void tensionAtLeast0() {
        CaskYard yard = Yards.casks(1, 100, 2);
        yard.pass(36);
        Check.due("0 of both", yard.cask(0, 3), 0);
        Check.due("driven from 0", yard.drive(0, 0, 1), 1);
        Check.due("driven from 0 to 9", yard.drive(0, 1, 9), 9);
        Check.due("10 is not greater than 5 for each", yard.cask(0, 2), 0);
    }

    private static void crackAboveFiveForEach() {
        Doc.says(7, "If the tensions of all hoops of the cask together are greater than 5 for each of them then, "
                + "a stave cracks (one flaw more).");
        for (int hoops = 2; hoops <= 8; hoops++) {
            CaskYard yard = Yards.casks(1, 100, hoops);
            for (int hoop = 0; hoop < hoops; hoop++) {
                yard.drive(0, hoop, 2);
                Check.due("at most 5 for each of " + hoops, yard.cask(0, 2), 0);
            }
            Check.due("5 for each", yard.cask(0, 3), 5 * hoops);
            yard.drive(0, hoops - 1, 1);
            Check.due("1 more than 5 for each of " + hoops, yard.cask(0, 2), 1);
            yard.drive(0, 0, 1);
            Check.due("once more", yard.cask(0, 2), 2);
        }
        CaskYard flawed = raised(69, 69, 70);
        flawed.drive(0, 0, 9);
        Check.due("one flaw more than two", flawed.cask(0, 2), 3);
        Check.due("one for each call, by 9 too", flawed.drive(0, 1, 9), 9);
        Check.due("one flaw more", flawed.cask(0, 2), 4);
    }

    private static void crackOfAHoopAt9() {
        CaskYard tight = Yards.casks(1, 100, 8);
        tight.drive(0, 0, 9);
        tight.drive(0, 0, 9);
        Check.due("30 of 40", tight.cask(0, 2), 0);
        CaskYard yard = Yards.casks(2, 100, 2);
        yard.drive(0, 0, 9);
        yard.drive(0, 0, 1);
        Check.due("12 of 10, twice", yard.cask(0, 2), 2);
        Check.due("not the other cask", yard.cask(1, 2), 0);
    }

    private static void rowOfCasksToDrive() {
        Doc.says(7, "there is no such cask or hoop (one that is broken up has none)");
        CaskYard yard = Yards.casks(3, 100, 2);
        yard.breakUp(1);
        for (int cask : new int[] {-1, Integer.MIN_VALUE, 1, 3, 11, 12, Integer.MAX_VALUE}) {
            Check.refused(yard, "drive of cask " + cask, Check.INDEX, () -> yard.drive(cask, 0, 1));
        }
        Check.due("the first cask", yard.drive(0, 0, 1), 4);
        Check.due("the last cask", yard.drive(2, 0, 1), 4);
        CaskYard full = Yards.casks(12, 100, 2);
        Check.due("the 12th cask", full.drive(11, 0, 1), 4);
        Check.refused(full, "no 13th cask", Check.INDEX, () -> full.drive(12, 0, 1));
    }

    private static void rowOfHoops() {
        for (int hoops = 2; hoops <= 8; hoops++) {
            CaskYard yard = Yards.casks(1, 100, hoops);
            int behind = hoops;
            Check.refused(yard, "hoop " + behind + " of " + hoops, Check.INDEX, () -> yard.drive(0, behind, 1));
            Check.refused(yard, "hoop -1", Check.INDEX, () -> yard.drive(0, -1, 1));
            Check.due("the first hoop", yard.drive(0, 0, 1), 4);
            Check.due("the last hoop", yard.drive(0, hoops - 1, 2), 5);
            Check.due("both", yard.cask(0, 3), 3 * hoops + 3);
        }
        CaskYard yard = Yards.casks(1, 100, 8);
        for (int hoop : new int[] {Integer.MIN_VALUE, 9, Integer.MAX_VALUE}) {
            Check.refused(yard, "hoop " + hoop, Check.INDEX, () -> yard.drive(0, hoop, 1));
        }
    }

    private static void leastAndMostBy() {
        Doc.says(7, "by is not 1 to 9");
        CaskYard yard = Yards.casks(1, 100, 8);
        for (int by : new int[] {0, -1, Integer.MIN_VALUE, 10, Integer.MAX_VALUE}) {
            Check.refused(yard, "by " + by, Check.ARGUMENT, () -> yard.drive(0, 0, by));
        }
        Check.due("by 1", yard.drive(0, 0, 1), 4);
        Check.due("by 9", yard.drive(0, 0, 9), 9);
    }

    private static void mendTakesTheGreatestNumber() {
        Doc.says(8, "its last stave (that with the greatest number) is gone, and another one comes in its place");
        CaskYard yard = raised(80, 81, 82, 83);
        yard.mend(0, 3);
        int[] places = {0, 0, -2, 0};
        for (int s = 0; s < 4; s++) {
            Check.due("the place of " + s, yard.stave(s, 2), places[s]);
            Check.due("the dryness of " + s, yard.stave(s, 1), 80 + s);
        }
        CaskYard smaller = new CaskYard();
        for (int dryness : new int[] {56, 90, 90, 90}) {
            smaller.addStave(100, dryness);
        }
        smaller.addSort(300, 1000, 2);
        smaller.raise(0);
        smaller.mend(0, 0);
        Check.due("the greatest number is gone", smaller.stave(3, 2), -2);
        Check.due("one before it stays", smaller.stave(2, 2), 0);
        Check.due("a smaller one is in", smaller.stave(0, 2), 0);
    }

    private static void mendFlawBelow70() {
        Doc.says(8, "all its flaws are gone (one is there, if the new one has a dryness of less than 70)");
        int[] dryness = {0, 69, 70, 100};
        int[] due = {1, 1, 0, 0};
        for (int n = 0; n < dryness.length; n++) {
            CaskYard yard = raised(90, 90, 90, dryness[n]);
            Check.due("no flaws before", yard.mend(0, 3), 0);
            Check.due("flaws with " + dryness[n], yard.cask(0, 2), due[n]);
        }
    }

    private static void mendEndsAllFlaws() {
        Doc.says(8, "Returns how many flaws it had.");
        CaskYard yard = raised(60, 60, 69, 70, 69, 70);
        yard.drive(0, 0, 9);
        Check.due("three wet ones and a crack", yard.mend(0, 3), 4);
        Check.due("none with 70", yard.cask(0, 2), 0);
        Check.due("none before", yard.mend(0, 4), 0);
        Check.due("one with 69", yard.cask(0, 2), 1);
        Check.due("one before", yard.mend(0, 5), 1);
        Check.due("none again", yard.cask(0, 2), 0);
        Check.due("tensions stay", yard.cask(0, 3), 12);
        Check.due("three staves", yard.cask(0, 1), 3);
    }

    private static void mendOfAnEmptyCask() {
        Doc.says(8, "holds something");
        CaskYard yard = raised(90, 90, 90, 90);
        yard.fill(0, 3, 1);
        Check.refused(yard, "it holds one cup", Check.STATE, () -> yard.mend(0, 3));
        yard.rack(0, -1, 1);
        Check.due("it is empty again", yard.mend(0, 3), 0);
        CaskYard lost = raised(90, 90, 90, 90);
        Yards.crack(lost, 0);
        lost.fill(0, 0, 1000);
        lost.pass(1);
        Check.due("70 grains", lost.cask(0, 13), 70);
        Check.due("grains alone are nothing that it holds", lost.mend(0, 3), 112);
        Check.due("they stay", lost.cask(0, 13), 70);
        CaskYard sour = raised(90, 90, 90, 90);
        sour.fill(0, 0, 100);
        sour.pass(6);
        sour.rack(0, -1, sour.cask(0, 7) - 1);
        Check.due("one cup of vinegar", sour.cask(0, 12), 1);
        Check.refused(sour, "it holds one cup of vinegar", Check.STATE, () -> sour.mend(0, 3));
    }

    private static void mendInTheYardAlone() {
        Doc.says(8, "the stave is not in the yard");
        CaskYard yard = Yards.casks(3, 100, 2);
        yard.addStave(100, 100);
        yard.breakUp(2);
        Check.refused(yard, "in this cask", Check.STATE, () -> yard.mend(0, 0));
        Check.refused(yard, "its last stave itself", Check.STATE, () -> yard.mend(0, 2));
        Check.refused(yard, "in another cask", Check.STATE, () -> yard.mend(0, 3));
        Check.refused(yard, "gone", Check.STATE, () -> yard.mend(0, 6));
        Check.due("in the yard again", yard.mend(0, 7), 0);
        Check.refused(yard, "gone by mending", Check.STATE, () -> yard.mend(0, 2));
        Check.due("in the yard from the first", yard.mend(0, 9), 0);
    }

    private static void mendOfTheSameWidth() {
        Doc.says(8, "its width is not that of the one that goes");
        CaskYard yard = new CaskYard();
        for (int width : new int[] {98, 100, 102, 98, 100, 101, 102, 103, 102}) {
            yard.addStave(width, 100);
        }
        yard.addSort(300, 100, 2);
        yard.raise(0);
        Check.due("98, 100 and 102", yard.cask(0, 1), 3);
        for (int stave : new int[] {3, 4, 5, 7}) {
            Check.refused(yard, "mend with " + stave, Check.STATE, () -> yard.mend(0, stave));
        }
        Check.due("the same width", yard.mend(0, 6), 0);
        Check.due("the same width, the last of the row", yard.mend(0, 8), 0);
    }

    private static void mendOfABrokenCask() {
        Doc.says(8, "the cask is broken up");
        CaskYard yard = Yards.casks(2, 100, 2);
        yard.addStave(100, 100);
        yard.breakUp(0);
        Check.refused(yard, "broken up", Check.STATE, () -> yard.mend(0, 6));
        Check.refused(yard, "broken up, with its own stave", Check.STATE, () -> yard.mend(0, 2));
        Check.refused(yard, "broken up, with the one gone", Check.STATE, () -> yard.mend(0, 0));
        Check.due("the sound one", yard.mend(1, 6), 0);
    }

    private static void rowsToMend() {
        Doc.says(8, "there is no such cask or stave");
        CaskYard yard = Yards.casks(2, 100, 2);
        yard.addStave(100, 100);
        for (int cask : new int[] {-1, Integer.MIN_VALUE, 2, 12, Integer.MAX_VALUE}) {
            Check.refused(yard, "mend of cask " + cask, Check.INDEX, () -> yard.mend(cask, 6));
        }
        for (int stave : new int[] {-1, -2, Integer.MIN_VALUE, 7, 60, Integer.MAX_VALUE}) {
            Check.refused(yard, "mend with stave " + stave, Check.INDEX, () -> yard.mend(0, stave));
        }
        Check.due("the last cask, the last stave", yard.mend(1, 6), 0);
        CaskYard full = Yards.staves(60);
        full.addSort(300, 100, 2);
        full.raise(0);
        Check.refused(full, "no 61st stave", Check.INDEX, () -> full.mend(0, 60));
        Check.due("the 60th stave", full.mend(0, 59), 0);
        Check.due("it is in", full.stave(59, 2), 0);
    }

    private static void breakUpNotBelow0() {
        Doc.says(9, "each with a dryness that is 30 less (at least 0)");
        int[] before = {0, 1, 29, 30, 31, 32, 60};
        for (int dryness : before) {
            CaskYard yard = raised(90, 61, 60, dryness);
            yard.mend(0, 3);
            yard.breakUp(0);
            Check.due(dryness + " and 30 less", yard.stave(3, 1), Math.max(0, dryness - 30));
            Check.due("61 and 30 less", yard.stave(1, 1), 31);
            Check.due("90 and 30 less", yard.stave(0, 1), 60);
            Check.due("not the one that was gone", yard.stave(2, 1), 60);
        }
    }

    private static void breakUpFirstIsGone() {
        Doc.says(9, "the first one, with the smallest number, is gone (with its dryness less, too)");
        CaskYard yard = raised(90, 80, 70, 100);
        yard.breakUp(0);
        int[] places = {-2, -1, -1, -1};
        int[] dryness = {60, 50, 40, 100};
        for (int s = 0; s < 4; s++) {
            Check.due("the place of " + s, yard.stave(s, 2), places[s]);
            Check.due("the dryness of " + s, yard.stave(s, 1), dryness[s]);
        }
        CaskYard wet = new CaskYard();
        for (int d : new int[] {29, 90, 90, 90}) {
            wet.addStave(100, d);
        }
        wet.addSort(300, 100, 2);
        wet.raise(0);
        wet.mend(0, 0);
        wet.breakUp(0);
        Check.due("the first one was put in last", wet.stave(0, 2), -2);
        Check.due("at least 0, though it is gone", wet.stave(0, 1), 0);
        Check.due("in the yard again", wet.stave(1, 2), -1);
        Check.due("in the yard again", wet.stave(2, 2), -1);
        Check.due("gone by mending", wet.stave(3, 2), -2);
        Check.due("its dryness stays", wet.stave(3, 1), 90);
    }

    private static void breakUpSpills() {
        Doc.says(9, "Returns what was spilled.");
        CaskYard yard = Yards.casks(3, 60000, 2);
        yard.fill(1, 2, 1);
        yard.fill(2, 0, 59999);
        yard.fill(2, 3, 1);
        Check.due("an empty one", yard.breakUp(0), 0);
        Check.due("one cup", yard.breakUp(1), 1);
        Check.due("a full one", yard.breakUp(2), 60000);
        Check.due("nothing is held", yard.count(6), 0);
        Check.due("spilled is not lost", yard.count(8), 0);
        Check.due("no cask is sound", yard.count(5), 0);
    }

    private static void breakUpTwice() {
        Doc.says(9, "it is broken up");
        CaskYard yard = Yards.casks(2, 100, 2);
        Check.due("once", yard.breakUp(0), 0);
        Check.refused(yard, "twice", Check.STATE, () -> yard.breakUp(0));
        Check.due("the dryness is less once", yard.stave(1, 1), 70);
        Check.due("one stave is gone", yard.count(2), 2);
        Check.due("the other one", yard.breakUp(1), 0);
        Check.refused(yard, "the other one twice", Check.STATE, () -> yard.breakUp(1));
    }

    private static void rowOfCasksToBreakUp() {
        Doc.says(9, "there is no such cask");
        CaskYard yard = Yards.casks(12, 100, 2);
        for (int cask : new int[] {-1, -2, Integer.MIN_VALUE, 12, 13, Integer.MAX_VALUE}) {
            Check.refused(yard, "breakUp(" + cask + ")", Check.INDEX, () -> yard.breakUp(cask));
        }
        Check.due("the first one", yard.breakUp(0), 0);
        Check.due("the last one", yard.breakUp(11), 0);
        Check.due("ten are sound", yard.count(5), 10);
        CaskYard one = Yards.casks(1, 100, 2);
        Check.refused(one, "breakUp(1) of one", Check.INDEX, () -> one.breakUp(1));
    }

    private static void brokenCaskHasNothing() {
        Doc.says(Doc.TERMS, "It is sound as long as it is not broken up; a cask that is broken up holds nothing, "
                + "has no staves and hoops, and keeps its number.");
        Doc.says(10, "15 1 if it is sound, else 0 (2 to 14: 0 if it is broken up)");
        CaskYard yard = new CaskYard();
        for (int s = 0; s < 6; s++) {
            yard.addStave(100, 65);
        }
        yard.addSort(400, 1000, 3);
        yard.addSort(300, 1000, 2);
        yard.raise(1);
        yard.drive(0, 0, 9);
        yard.fill(0, 0, 400);
        yard.pass(6);
        for (int liquid = 0; liquid < 4; liquid++) {
            yard.fill(0, liquid, 100);
        }
        yard.pass(1);
        for (int t = 2; t <= 15; t++) {
            Check.due("there is something of " + t, yard.cask(0, t) > 0 ? 1 : 0, 1);
        }
        yard.breakUp(0);
        tells("broken up", yard, 0, 1, 0, 0, 0, 0, 0, 0, 0, 0, 0, 0, 0, 0, 0, 0, 0);
        Check.due("no month changes it", yard.pass(12), 0);
        tells("a year later", yard, 0, 1, 0, 0, 0, 0, 0, 0, 0, 0, 0, 0, 0, 0, 0, 0, 0);
        Check.due("the next one has the next number", yard.raise(1), 1);
        tells("the next one", yard, 1, 1, 3, 0, 6, 0, 0, 0, 0, 0, 0, 0, 0, 0, 0, 18, 1);
        tells("it is not the next one", yard, 0, 1, 0, 0, 0, 0, 0, 0, 0, 0, 0, 0, 0, 0, 0, 0, 0);
    }

    private static void rowOfCasks() {
        Doc.says(10, "there is no such cask");
        CaskYard yard = Yards.casks(2, 100, 2);
        Check.due("the first one", yard.cask(0, 15), 1);
        Check.due("the last one", yard.cask(1, 15), 1);
        for (int cask : new int[] {-1, -2, Integer.MIN_VALUE, 2, 11, 12, Integer.MAX_VALUE}) {
            Check.refused(yard, "cask " + cask, Check.INDEX, () -> yard.cask(cask, 0));
        }
        CaskYard full = Yards.casks(12, 100, 2);
        Check.due("the 12th", full.cask(11, 15), 1);
        Check.refused(full, "no 13th", Check.INDEX, () -> full.cask(12, 15));
    }

    private static void tellsOfACask() {
        Doc.says(10, "what is not 0 to 15");
        CaskYard yard = Yards.casks(1, 1000, 2);
        for (int what : new int[] {-1, Integer.MIN_VALUE, 16, Integer.MAX_VALUE}) {
            Check.refused(yard, "what " + what, Check.INDEX, () -> yard.cask(0, what));
        }
        yard.fill(0, 0, 11);
        yard.fill(0, 1, 22);
        yard.fill(0, 2, 33);
        yard.fill(0, 3, 44);
        tells("each of them", yard, 0, 0, 3, 0, 6, 0, 1, 0, 110, 11, 22, 33, 44, 0, 0, 18, 1);
    }
}
