import java.math.BigInteger;

/** The edges that the document names for months that go by and for what is told: promises 14 to 19. */
public final class TellingEdgesTest {
    public static void main(String[] args) {
        leastAndMostMonths();
        lastMonth();
        lastMonthIsATwelfth();
        lostInAllCasks();
        emptyAndFullCounts();
        lostInAllMonths();
        tellsOfTheYard();
        leastAndMostMonthsToForesee();
        lastMonthToForesee();
        rowOfCasksToForesee();
        tellsToForesee();
        foreseeChangesNothing();
        foreseeVinegar();
        foreseeTheTwelfthMonth();
        foreseeOfABrokenCask();
        foreseeAllMonths();
        leastAndMostTarget();
        tellsOfABlend();
        twoCasksToBlend();
        onlyCasksWithSomething();
        onlyCasksWithoutVinegar();
        oneToNineTenths();
        tasteIsCut();
        tasteAtMostAMillion();
        differsLeastWithoutItsSign();
        smallestOfSeveral();
        tasteOfNothing();
        tasteOfAll();
        digestOfAnEmptyYard();
        digestWrapsAround();
        digestOfAllThatThereIs();
        greatestNumbers();
        allCallsThatAnObjectHas();
        Doc.refusalsAreQuoted(14, 19);
        Check.end();
    }

    private static CaskYard inMonth(CaskYard yard, int month) {
        for (int left = month; left > 0; left -= 60) {
            yard.pass(Math.min(60, left));
        }
        Check.due("month", yard.count(0), month);
        return yard;
    }

    private static void leastAndMostMonths() {
        Doc.says(14, "months is not 1 to 60");
        CaskYard yard = Yards.casks(1, 100, 2);
        for (int months : new int[] {0, -1, -60, Integer.MIN_VALUE, 61, 1201, Integer.MAX_VALUE}) {
            Check.refused(yard, "pass(" + months + ")", Check.ARGUMENT, () -> yard.pass(months));
        }
        Check.due("the fewest months", yard.pass(1), 0);
        Check.due("month", yard.count(0), 1);
        Check.due("the most months", yard.pass(60), 0);
        Check.due("month", yard.count(0), 61);
    }

    private static void lastMonth() {
        Doc.says(14, "the month would be greater than 1200");
        for (int month : new int[] {1140, 1141, 1199, 1200}) {
            CaskYard yard = inMonth(Yards.staves(1), month);
            int left = 1200 - month;
            if (left < 60) {
                Check.refused(yard, "the month 1201 from " + month, Check.STATE, () -> yard.pass(left + 1));
                Check.refused(yard, "60 months from " + month, Check.STATE, () -> yard.pass(60));
                Check.refused(yard, "61 months from " + month, Check.ARGUMENT, () -> yard.pass(61));
            }
            if (left > 0) {
                Check.due("the month 1200 from " + month, yard.pass(left), 0);
            }
            Check.due("month", yard.count(0), 1200);
            Check.refused(yard, "the month 1201", Check.STATE, () -> yard.pass(1));
            Check.refused(yard, "no month from 1200", Check.ARGUMENT, () -> yard.pass(0));
        }
    }

    private static void lastMonthIsATwelfth() {
        CaskYard yard = inMonth(Yards.casks(1, 1000, 2), 1199);
        Check.due("driven from 0", yard.drive(0, 0, 5), 5);
        yard.fill(0, 0, 1000);
        Check.due("as it is foreseen", yard.foresee(0, 1, 3), 30 - 8 - 5);
        // leak 30 - 10 - 5, with 3 and 2: 20 thousandths
        Check.due("lost in the last month", yard.pass(1), 20);
        Check.due("the hoops loosen in it", yard.cask(0, 3), 4);
        Check.due("what it holds is told", yard.cask(0, 7), 980);
        Check.due("filled in the month 1200", yard.fill(0, 0, 20), 1000);
    }

    private static void lostInAllCasks() {
        Doc.says(14, "Returns how much was lost in them in all casks.");
        CaskYard yard = Yards.casks(12, 1000, 8);
        Check.due("nothing of empty ones", yard.pass(1), 0);
        for (int c = 0; c < 12; c++) {
            yard.fill(c, 0, 1000);
        }
        yard.breakUp(6);
        Check.due("5 of each of eleven", yard.pass(1), 55);
        // 995 and 991: 4 of each; the 986 left of 990 lose 4 as well
        Check.due("4 of each in two months", yard.pass(2), 88);
        Check.due("lost in all months", yard.count(8), 143);
        Check.due("held", yard.count(6), 11 * 1000 - 143);
        CaskYard full = Yards.staves(60);
        full.addSort(500, 60000, 8);
        for (int c = 0; c < 12; c++) {
            full.raise(0);
            full.fill(c, 0, 60000);
        }
        Check.due("300 of each of twelve", full.pass(1), 3600);
        Check.dueDouble("taste of a full yard", full.taste(), 4200.0 / 59700.0);
    }

    private static void emptyAndFullCounts() {
        int[] empty = {0, 0, 0, 0, 0, 0, 0, 0, 0, 2};
        CaskYard none = new CaskYard();
        for (int what = 0; what < 10; what++) {
            Check.due("count(" + what + ") of an empty yard", none.count(what), empty[what]);
        }
        CaskYard full = Yards.staves(60);
        for (int sort = 0; sort < 6; sort++) {
            full.addSort(500, 60000, 8);
        }
        for (int c = 0; c < 12; c++) {
            full.raise(c % 6);
            full.fill(c, 0, 60000);
        }
        int[] due = {0, 60, 0, 6, 12, 12, 720000, 0, 0, 2};
        for (int what = 0; what < 10; what++) {
            Check.due("count(" + what + ") of a full yard", full.count(what), due[what]);
        }
        Check.dueDouble("taste of a full yard", full.taste(), 0.0);
        blends("of a full yard", full, 0, 0, 1, 1, 0);
        Check.due("foresee of a full yard", full.foresee(11, 1, 0), 59700);
        for (int c = 0; c < 12; c++) {
            Check.due("spilled", full.breakUp(c), 60000);
        }
        int[] broken = {0, 60, 48, 6, 12, 0, 0, 0, 0, 2};
        for (int what = 0; what < 10; what++) {
            Check.due("count(" + what + ") of a broken yard", full.count(what), broken[what]);
        }
    }

    private static void lostInAllMonths() {
        Doc.says(15, "6 what all hold, 7 the vinegar of all, 8 what was lost in all months");
        CaskYard yard = Yards.casks(3, 60000, 2);
        Yards.crack(yard, 0);
        long lost = 0;
        for (int n = 0; n < 100; n++) {
            yard.fill(0, n % 4, 60000);
            lost += yard.pass(1);
        }
        Check.due("a full cask a hundred times", lost, 6000000);
        Check.due("lost in all months", yard.count(8), 6000000);
        yard.fill(1, 0, 100);
        yard.breakUp(1);
        yard.fill(2, 0, 100);
        yard.rack(2, -1, 100);
        Check.due("neither spilled nor poured away", yard.count(8), 6000000);
    }

    private static void tellsOfTheYard() {
        Doc.says(15, "what is not 0 to 9");
        CaskYard yard = Yards.staves(3);
        for (int what : new int[] {-1, Integer.MIN_VALUE, 10, Integer.MAX_VALUE}) {
            Check.refused(yard, "count(" + what + ")", Check.INDEX, () -> yard.count(what));
        }
        Check.due("the first one", yard.count(0), 0);
        Check.due("the last one", yard.count(9), 2);
    }

    private static void leastAndMostMonthsToForesee() {
        Doc.says(16, "months is not 1 to 60");
        CaskYard yard = Yards.casks(1, 1000, 8);
        yard.fill(0, 0, 1000);
        for (int months : new int[] {0, -1, Integer.MIN_VALUE, 61, 1201, Integer.MAX_VALUE}) {
            Check.refused(yard, "foresee of " + months, Check.ARGUMENT, () -> yard.foresee(0, months, 0));
        }
        Check.due("the fewest months", yard.foresee(0, 1, 0), 995);
        int most = yard.foresee(0, 60, 0);
        yard.pass(60);
        Check.due("the most months", most, yard.cask(0, 7));
    }

    private static void lastMonthToForesee() {
        Doc.says(16, "the month would be greater than 1200");
        for (int month : new int[] {1140, 1141, 1199, 1200}) {
            CaskYard yard = inMonth(Yards.casks(1, 1000, 8), month);
            yard.fill(0, 0, 1000);
            int left = 1200 - month;
            if (left < 60) {
                for (int what = 0; what < 4; what++) {
                    int w = what;
                    Check.refused(yard, "the month 1201 from " + month, Check.STATE,
                            () -> yard.foresee(0, left + 1, w));
                }
                Check.refused(yard, "60 months from " + month, Check.STATE, () -> yard.foresee(0, 60, 0));
                Check.refused(yard, "61 months from " + month, Check.ARGUMENT, () -> yard.foresee(0, 61, 0));
            }
            if (left > 0) {
                int seen = yard.foresee(0, left, 0);
                yard.pass(left);
                Check.due("the month 1200 from " + month, seen, yard.cask(0, 7));
            }
        }
    }

    private static void rowOfCasksToForesee() {
        Doc.says(16, "there is no such cask");
        CaskYard yard = Yards.casks(2, 100, 8);
        yard.fill(0, 0, 10);
        yard.fill(1, 0, 20);
        for (int cask : new int[] {-1, Integer.MIN_VALUE, 2, 11, 12, Integer.MAX_VALUE}) {
            Check.refused(yard, "foresee of cask " + cask, Check.INDEX, () -> yard.foresee(cask, 1, 0));
        }
        Check.due("the first one", yard.foresee(0, 1, 0), 9);
        Check.due("the last one", yard.foresee(1, 1, 0), 19);
        CaskYard full = Yards.casks(12, 100, 8);
        full.fill(11, 0, 30);
        Check.due("the 12th", full.foresee(11, 1, 0), 29);
        Check.refused(full, "no 13th", Check.INDEX, () -> full.foresee(12, 1, 0));
    }

    private static void tellsToForesee() {
        Doc.says(16, "what is not 0 to 3");
        CaskYard yard = Yards.casks(1, 1000, 2);
        yard.fill(0, 0, 200);
        for (int what : new int[] {-1, Integer.MIN_VALUE, 4, Integer.MAX_VALUE}) {
            Check.refused(yard, "foresee what " + what, Check.INDEX, () -> yard.foresee(0, 1, what));
        }
        // leak 18, with 3 and 2: 23 thousandths of 200
        Check.due("0 all that it will hold", yard.foresee(0, 1, 0), 196);
        Check.due("1 its vinegar", yard.foresee(0, 1, 1), 0);
        Check.due("2 its grains", yard.foresee(0, 1, 2), 14);
        Check.due("3 its leak then", yard.foresee(0, 1, 3), 18);
        yard.setWarmth(9);
        Check.due("with the warmth that is now", yard.foresee(0, 1, 0), 194);
    }

    private static void foreseeChangesNothing() {
        Doc.says(16, "Returns this, if so many months went by from now on (nothing is changed).");
        CaskYard yard = Yards.casks(2, 1000, 2);
        yard.addStave(50, 10);
        yard.fill(0, 0, 600);
        yard.fill(1, 1, 1000);
        yard.pass(5);
        long before = yard.digest();
        double taste = yard.taste();
        for (int what = 0; what < 4; what++) {
            int first = yard.foresee(0, 60, what);
            yard.foresee(1, 30, what);
            yard.rack(1, -1, 1);
            yard.fill(1, 1, 1);
            Check.due("the same again", yard.foresee(0, 60, what), first);
        }
        Check.due("air months", yard.cask(0, 6), 5);
        Check.due("no vinegar", yard.count(7), 0);
        Check.due("month", yard.count(0), 5);
        Check.due("the stave in the yard", yard.stave(6, 1), 30);
        CaskYard asked = Yards.casks(2, 1000, 2);
        asked.addStave(50, 10);
        asked.fill(0, 0, 600);
        asked.fill(1, 1, 1000);
        asked.pass(5);
        for (int months = 1; months <= 60; months++) {
            asked.foresee(0, months, months % 4);
            asked.foresee(1, months, months % 4);
        }
        Check.due("the digest is that of before", asked.digest(), before);
        Check.dueDouble("the taste is that of before", asked.taste(), taste);
    }

    private static void foreseeVinegar() {
        CaskYard yard = Yards.casks(1, 1000, 8);
        yard.fill(0, 0, 100);
        yard.pass(2);
        Check.due("five air months", yard.foresee(0, 3, 1), 0);
        Check.due("six air months", yard.foresee(0, 4, 1), 94);
        Check.due("all is vinegar", yard.foresee(0, 4, 0), 94);
        Check.due("and gets less", yard.foresee(0, 5, 1), 93);
        // 1 less a month up to month 36, then 35 thousandths of 64, 62, 60 and 58, and 1 less again
        Check.due("in 60 months", yard.foresee(0, 60, 1), 34);
        Check.due("no grains of 98", yard.foresee(0, 60, 2), 7);
    }

    private static void foreseeTheTwelfthMonth() {
        CaskYard yard = Yards.casks(1, 1000, 2);
        int[] due = {18, 18, 18, 18, 18, 18, 18, 18, 18, 18, 18, 22, 22};
        for (int months = 1; months <= due.length; months++) {
            Check.due("leak of an empty one in " + months, yard.foresee(0, months, 3), due[months - 1]);
        }
        yard.pass(7);
        Check.due("four months more", yard.foresee(0, 4, 3), 18);
        Check.due("five months more", yard.foresee(0, 5, 3), 22);
        Check.due("sixteen months more", yard.foresee(0, 16, 3), 22);
        Check.due("seventeen months more", yard.foresee(0, 17, 3), 26);
        Check.due("all loose", yard.foresee(0, 60, 3), 30);
    }

    private static void foreseeOfABrokenCask() {
        CaskYard yard = Yards.casks(2, 1000, 2);
        yard.fill(0, 0, 1000);
        yard.pass(1);
        yard.breakUp(0);
        for (int what = 0; what < 4; what++) {
            Check.due("it holds nothing and does not leak", yard.foresee(0, 1, what), 0);
            Check.due("nor in 60 months", yard.foresee(0, 60, what), 0);
        }
    }

    /** Behind five months: a full cask, a flawed one with air months, one of 8 hoops that leaks, an empty one. */
    private static CaskYard toForesee() {
        CaskYard yard = Yards.staves(12);
        yard.addSort(300, 1000, 3);
        yard.addSort(300, 1001, 8);
        for (int c = 0; c < 4; c++) {
            yard.raise(c / 2 == 1 ? 1 : 0);
        }
        yard.fill(0, 0, 997);
        yard.fill(0, 3, 3);
        for (int n = 0; n < 4; n++) {
            yard.drive(1, 1 + n % 2, 9);
        }
        yard.fill(1, 1, 520);
        for (int n = 0; n < 12; n++) {
            yard.drive(2, 7 - n % 4, 9);
        }
        yard.fill(2, 2, 1001);
        yard.pass(5);
        return yard;
    }

    private static void foreseeAllMonths() {
        CaskYard now = toForesee();
        Check.due("swelling", now.cask(0, 4), 20);
        Check.due("air months", now.cask(1, 6), 5);
        Check.due("flaws", now.cask(1, 2), 3);
        Check.due("flaws", now.cask(2, 2), 10);
        int[] tells = {7, 12, 13, 14};
        int[] order = {2, 0, 3, 1, 0, 2};
        for (int months = 1; months <= 60; months++) {
            CaskYard yard = toForesee();
            int[][] seen = new int[4][4];
            for (int n = 0; n < order.length; n++) {
                for (int what = 0; what < 4; what++) {
                    seen[order[n]][what] = yard.foresee(order[n], months, what);
                }
            }
            yard.pass(months);
            for (int cask = 0; cask < 4; cask++) {
                for (int what = 0; what < 4; what++) {
                    Check.due("foresee(" + cask + ", " + months + ", " + what + ")", seen[cask][what],
                            yard.cask(cask, tells[what]));
                }
            }
        }
    }

    private static void blends(String text, CaskYard yard, int target, int... due) {
        for (int what = 0; what < 4; what++) {
            Check.due(text + ": blend(" + target + ", " + what + ")", yard.blend(target, what), due[what]);
        }
    }

    /** Leaky casks of a room of 60000; the first ones have so many grains, and hold nothing. */
    private static CaskYard grains(int casks, int... hundreds) {
        CaskYard yard = Yards.casks(casks, 60000, 2);
        for (int cask = 0; cask < hundreds.length; cask++) {
            Yards.crack(yard, cask);
            yard.fill(cask, 0, 100 * hundreds[cask]);
        }
        yard.pass(1);
        for (int cask = 0; cask < hundreds.length; cask++) {
            Check.due("empty", yard.cask(cask, 7), 0);
            Check.due("grains", yard.cask(cask, 13), 7 * hundreds[cask]);
        }
        return yard;
    }

    private static void leastAndMostTarget() {
        Doc.says(17, "target is not 0 to 1000000");
        CaskYard yard = grains(2, 100);
        yard.fill(0, 0, 7);
        yard.fill(1, 0, 1);
        for (int target : new int[] {-1, Integer.MIN_VALUE, 1000001, Integer.MAX_VALUE}) {
            Check.refused(yard, "target " + target, Check.ARGUMENT, () -> yard.blend(target, 0));
        }
        blends("the least target", yard, 0, 0, 1, 1, 10000);
        blends("the greatest target", yard, 1000000, 0, 1, 9, 90000);
    }

    private static void tellsOfABlend() {
        Doc.says(17, "what is not 0 to 3");
        CaskYard yard = grains(2, 100);
        yard.fill(0, 0, 7);
        yard.fill(1, 0, 1);
        for (int what : new int[] {-1, Integer.MIN_VALUE, 4, Integer.MAX_VALUE}) {
            Check.refused(yard, "blend what " + what, Check.INDEX, () -> yard.blend(0, what));
        }
        long before = yard.digest();
        blends("0 the cask a, 1 the cask b, 2 the tenths, 3 the taste", yard, 29000, 0, 1, 3, 30000);
        Check.due("nothing is changed", yard.digest(), before);
    }

    private static void twoCasksToBlend() {
        Doc.says(17, "Returns this; -1 if there are no two such casks.");
        CaskYard yard = Yards.casks(3, 100, 2);
        blends("none holds something", yard, 0, -1, -1, -1, -1);
        yard.fill(1, 0, 100);
        blends("one holds something", yard, 0, -1, -1, -1, -1);
        yard.fill(2, 0, 1);
        blends("two hold something", yard, 0, 1, 2, 1, 0);
        yard.breakUp(1);
        blends("one is broken up", yard, 0, -1, -1, -1, -1);
        CaskYard one = Yards.casks(1, 100, 2);
        one.fill(0, 0, 100);
        blends("one is not blended with itself", one, 0, -1, -1, -1, -1);
        CaskYard full = Yards.casks(12, 100, 2);
        full.fill(10, 0, 1);
        full.fill(11, 0, 1);
        blends("the last two of twelve", full, 1000000, 10, 11, 1, 0);
    }

    private static void onlyCasksWithSomething() {
        Doc.says(17, "of two sound casks a and b, a less than b, that hold something, and no vinegar");
        CaskYard yard = grains(3, 100);
        yard.fill(1, 0, 1);
        blends("grains alone are nothing", yard, 0, -1, -1, -1, -1);
        yard.fill(2, 3, 1);
        blends("one cup of liquid 3", yard, 0, 1, 2, 1, 0);
        yard.fill(0, 0, 7);
        blends("the first one holds something", yard, 10000, 0, 1, 1, 10000);
        yard.rack(2, -1, 1);
        blends("the last one is empty", yard, 0, 0, 1, 1, 10000);
    }

    private static void onlyCasksWithoutVinegar() {
        CaskYard yard = Yards.casks(3, 1000, 8);
        yard.fill(0, 0, 50);
        yard.pass(6);
        yard.fill(0, 0, 50);
        yard.fill(1, 0, 50);
        yard.fill(2, 0, 50);
        yard.rack(0, -1, 90);
        Check.due("a few cups of vinegar", yard.cask(0, 12) > 0 ? 1 : 0, 1);
        blends("vinegar in the first one", yard, 0, 1, 2, 1, 0);
        yard.rack(0, 2, 2);
        Check.due("one cup of vinegar", yard.cask(2, 12), 1);
        blends("vinegar in two", yard, 0, -1, -1, -1, -1);
        yard.rack(2, -1, yard.cask(2, 7));
        yard.fill(2, 0, 1);
        blends("none any more", yard, 0, 1, 2, 1, 0);
    }

    private static void oneToNineTenths() {
        Doc.says(17, "a part of 1 to 9 tenths of a, the rest of b");
        CaskYard yard = grains(2, 100);
        yard.fill(0, 0, 7);
        yard.fill(1, 0, 1);
        for (int tenths = 1; tenths <= 9; tenths++) {
            blends("just it", yard, 10000 * tenths, 0, 1, tenths, 10000 * tenths);
            blends("a bit less", yard, 10000 * tenths - 4999, 0, 1, tenths, 10000 * tenths);
            blends("a bit more", yard, 10000 * tenths + 4999, 0, 1, tenths, 10000 * tenths);
        }
        blends("not none of a", yard, 0, 0, 1, 1, 10000);
        blends("not all of a", yard, 100000, 0, 1, 9, 90000);
        yard.rack(0, 1, 7);
        yard.fill(0, 0, 1);
        yard.rack(1, -1, 1);
        // 700 - 87 grains and 7 cups of b
        blends("not all of b", yard, 1000000, 0, 1, 1, 78813);
        blends("not none of b", yard, 0, 0, 1, 9, 8757);
    }

    private static void tasteIsCut() {
        Doc.says(17, "the taste of a cask is its grains * 1000 / all that it holds");
        Doc.says(17, "that of a blend (tenths * the taste of a, and the others * that of b) / 10");
        CaskYard yard = grains(2, 1, 1);
        yard.fill(0, 0, 60000);
        yard.fill(1, 0, 539);
        // 7 * 1000 / 60000 is 0, 7 * 1000 / 539 is 12
        blends("9 * 12 / 10", yard, 1000000, 0, 1, 1, 10);
        blends("12 / 10", yard, 0, 0, 1, 9, 1);
        blends("4 * 12 / 10", yard, 4, 0, 1, 6, 4);
        yard.fill(1, 1, 6461);
        // 7 * 1000 / 7000 is 1
        blends("9 / 10", yard, 1000000, 0, 1, 1, 0);
        yard.rack(0, -1, 53001);
        // what is left of the grains is 1: 1000 / 6999 is 0
        Check.due("grains left", yard.cask(0, 13), 1);
        blends("0 and 9 / 10", yard, 1, 0, 1, 1, 0);
        CaskYard just = grains(2, 1, 1);
        just.fill(0, 0, 1000);
        just.fill(1, 0, 1001);
        blends("7 and 6, 1 tenth", just, 6, 0, 1, 1, 6);
        blends("7 and 6, 9 tenths", just, 7, 0, 1, 1, 6);
        CaskYard both = grains(2, 1, 1);
        both.fill(0, 0, 1000);
        both.fill(1, 0, 1000);
        blends("7 and 7", both, 7, 0, 1, 1, 7);
    }

    private static void tasteAtMostAMillion() {
        Doc.says(17, "but at most 1000000");
        // 7 * 500 and 6 * 250 grains are 5000
        int[] cups = {4, 5, 6};
        int[] tastes = {1000000, 1000000, 833333};
        for (int n = 0; n < cups.length; n++) {
            CaskYard yard = grains(2, 500);
            yard.fill(0, 0, 25000);
            yard.pass(1);
            Check.due("grains", yard.cask(0, 13), 5000);
            yard.fill(0, 0, cups[n]);
            yard.fill(1, 0, 1);
            blends("5000 grains and " + cups[n] + " cups", yard, 1000000, 0, 1, 9, tastes[n] * 9 / 10);
            blends("5000 grains and " + cups[n] + " cups", yard, 0, 0, 1, 1, tastes[n] / 10);
        }
        CaskYard both = grains(2, 600, 600);
        both.fill(0, 0, 1);
        both.fill(1, 0, 4);
        blends("both are a million", both, 1000000, 0, 1, 1, 1000000);
        blends("both are a million", both, 0, 0, 1, 1, 1000000);
    }

    private static void differsLeastWithoutItsSign() {
        Doc.says(17, "Best is what differs least from the target, without its sign");
        CaskYard yard = grains(2, 100);
        yard.fill(0, 0, 7);
        yard.fill(1, 0, 1);
        blends("less by 4999, more by 5001", yard, 24999, 0, 1, 2, 20000);
        blends("less by 5000, more by 5000", yard, 25000, 0, 1, 2, 20000);
        blends("less by 5001, more by 4999", yard, 25001, 0, 1, 3, 30000);
        CaskYard turned = grains(3, 100);
        turned.fill(0, 0, 7);
        turned.rack(0, 1, 7);
        turned.fill(2, 0, 1);
        turned.fill(0, 0, 1);
        // cask 0 has no taste, cask 1 has 1000000: the fewest tenths taste more
        Check.due("no grains", turned.cask(0, 13), 0);
        blends("more by 5000, less by 5000", turned, 85000, 0, 1, 1, 90000);
    }

    private static void smallestOfSeveral() {
        Doc.says(17, "of several that with the smallest a, of these the smallest b, of these the fewest tenths");
        CaskYard yard = Yards.casks(4, 100, 2);
        for (int c = 0; c < 4; c++) {
            yard.fill(c, 0, 1);
        }
        blends("all alike", yard, 500, 0, 1, 1, 0);
        yard.rack(1, -1, 1);
        blends("the smallest b", yard, 500, 0, 2, 1, 0);
        yard.rack(0, -1, 1);
        blends("the smallest a", yard, 500, 2, 3, 1, 0);
        CaskYard tastes = grains(3, 100, 100);
        tastes.fill(0, 0, 7);
        tastes.fill(1, 0, 7);
        tastes.fill(2, 0, 1);
        // casks 0 and 1 have 100000, cask 2 none
        blends("a of 0 ahead of 1", tastes, 30000, 0, 2, 3, 30000);
        blends("b of 1 ahead of 2", tastes, 95000, 0, 1, 1, 100000);
        tastes.rack(2, -1, 1);
        tastes.rack(1, 2, 7);
        tastes.fill(1, 0, 1);
        // casks 0 and 2 have 100000, cask 1 none
        blends("the smallest a with more tenths", tastes, 10000, 0, 1, 1, 10000);
        blends("the smallest a, though b has fewer tenths", tastes, 90000, 0, 1, 9, 90000);
    }

    private static void tasteOfNothing() {
        Doc.says(18, "0 if they hold nothing");
        Check.dueDouble("an empty yard", new CaskYard().taste(), 0.0);
        CaskYard yard = grains(2, 100);
        Check.dueDouble("grains, but nothing held", yard.taste(), 0.0);
        yard.fill(1, 0, 1);
        Check.dueDouble("grains of the empty one", yard.taste(), 700.0);
        yard.breakUp(0);
        Check.dueDouble("no grains", yard.taste(), 0.0);
        yard.breakUp(1);
        Check.dueDouble("all broken up", yard.taste(), 0.0);
    }

    private static void tasteOfAll() {
        Doc.says(18, "Returns all grains of all casks, divided by all that they hold");
        CaskYard yard = grains(3, 100, 1);
        yard.fill(0, 0, 3);
        Check.dueDouble("not cut", yard.taste(), 707.0 / 3.0);
        yard.fill(1, 0, 60000);
        yard.fill(2, 3, 60000);
        Check.dueDouble("far less than one", yard.taste(), 707.0 / 120003.0);
        CaskYard sour = Yards.casks(1, 1000, 8);
        sour.fill(0, 0, 200);
        sour.pass(6);
        // 14 grains of 200, 7 of 199 and less
        Check.dueDouble("of vinegar, too", sour.taste(), 49.0 / 194.0);
    }

    private static void digestOfAnEmptyYard() {
        Doc.says(19, "A number d starts with 487; for each of the following numbers x, d becomes d * 31 + x");
        long d = 487;
        for (int what = 0; what < 10; what++) {
            d = d * 31 + (what == 9 ? 2 : 0);
        }
        Check.due("an empty yard", new CaskYard().digest(), d);
        CaskYard warm = new CaskYard();
        warm.setWarmth(3);
        Check.due("the warmth comes last", warm.digest(), d + 1);
    }

    /** The digest of these numbers, wrapped around once, at the end. */
    private static long digestOf(int... numbers) {
        BigInteger d = BigInteger.valueOf(487);
        for (int x : numbers) {
            d = d.multiply(BigInteger.valueOf(31)).add(BigInteger.valueOf(x));
        }
        return d.longValue();
    }

    private static void digestWrapsAround() {
        Doc.says(19, "which wraps around as a 64-bit integer");
        CaskYard yard = new CaskYard();
        yard.addStave(77, 33);
        Check.due("13 numbers", yard.digest(), digestOf(0, 1, 1, 0, 0, 0, 0, 0, 0, 2, 77, 33, -1));
        yard.addSort(300, 100, 2);
        Check.due("16 numbers", yard.digest(), digestOf(0, 1, 1, 1, 0, 0, 0, 0, 0, 2, 77, 33, -1, 300, 100, 2));
        yard.pass(60);
        Check.due("60 months", yard.digest(), digestOf(60, 1, 1, 1, 0, 0, 0, 0, 0, 2, 77, 100, -1, 300, 100, 2));
    }

    private static void digestOfAllThatThereIs() {
        Doc.says(19, "what count() tells, in its order; for each stave what stave() tells; for each sort its girth, "
                + "its room and its hoops; for each cask what cask() tells, and the tension of each of its hoops "
                + "(all in their order)");
        CaskYard yard = new CaskYard();
        for (int s = 0; s < 6; s++) {
            yard.addStave(100, 65 + s);
        }
        yard.addSort(300, 1000, 2);
        yard.addSort(301, 2000, 3);
        yard.raise(0);
        yard.raise(0);
        yard.drive(1, 1, 1);
        yard.fill(1, 3, 400);
        Check.due("two sound casks", yard.digest(), digestOf(0, 6, 0, 2, 2, 2, 400, 0, 0, 2,
                100, 65, 0, 100, 66, 0, 100, 67, 0, 100, 68, 1, 100, 69, 1, 100, 70, 1,
                300, 1000, 2, 301, 2000, 3,
                0, 3, 3, 6, 0, 0, 0, 0, 0, 0, 0, 0, 0, 0, 48, 1, 3, 3,
                0, 3, 2, 7, 0, 1, 0, 400, 0, 0, 0, 400, 0, 0, 36, 1, 3, 4));
        yard.breakUp(0);
        Check.due("a broken cask and a sound one", yard.digest(), digestOf(0, 6, 2, 2, 2, 1, 400, 0, 0, 2,
                100, 35, -2, 100, 36, -1, 100, 37, -1, 100, 68, 1, 100, 69, 1, 100, 70, 1,
                300, 1000, 2, 301, 2000, 3,
                0, 0, 0, 0, 0, 0, 0, 0, 0, 0, 0, 0, 0, 0, 0, 0,
                0, 3, 2, 7, 0, 1, 0, 400, 0, 0, 0, 400, 0, 0, 36, 1, 3, 4));
        yard.pass(1);
        // leak 36, with 3 and 2: 41 thousandths of 400
        Check.due("a month later", yard.digest(), digestOf(1, 6, 2, 2, 2, 1, 384, 0, 16, 2,
                100, 35, -2, 100, 40, -1, 100, 41, -1, 100, 68, 1, 100, 69, 1, 100, 70, 1,
                300, 1000, 2, 301, 2000, 3,
                0, 0, 0, 0, 0, 0, 0, 0, 0, 0, 0, 0, 0, 0, 0, 0,
                0, 3, 2, 7, 0, 1, 1, 384, 0, 0, 0, 384, 0, 28, 36, 1, 3, 4));
    }

    /** Two tight casks, kept full for a hundred years: more grains than an int holds thousandfold. */
    private static void greatestNumbers() {
        CaskYard yard = Yards.casks(2, 60000, 8);
        yard.setWarmth(0);
        long held = 0;
        long grains = 0;
        long lost = 0;
        for (int n = 0; n < 20; n++) {
            for (int hoop = 0; hoop < 8; hoop++) {
                yard.drive(0, hoop, n == 0 ? 2 : 5);
            }
            yard.fill(0, 0, (int) (60000 - held));
            held = 60000;
            long before = lost;
            for (int m = 0; m < 60; m++) {
                grains += held / 100 * 7;
                lost += held * 3 / 1000;
                held -= held * 3 / 1000;
            }
            Check.due("no crack", yard.cask(0, 2), 0);
            Check.due("lost in five years", yard.pass(60), lost - before);
            Check.due("held", yard.cask(0, 7), held);
            Check.due("grains", yard.cask(0, 13), grains);
        }
        Check.due("more than two million grains", grains > 2147483 ? 1 : 0, 1);
        Check.due("lost in a hundred years", yard.count(8), lost);
        Check.due("no vinegar", yard.count(7), 0);
        Check.dueDouble("taste", yard.taste(), (double) grains / held);
        yard.fill(1, 0, 1);
        blends("the taste of both", yard, 1000000, 0, 1, 9, (int) (grains * 1000 / held * 9 / 10));
        yard.rack(1, -1, 1);
        long amount = held - 1;
        Check.due("all but a cup", yard.rack(0, 1, (int) amount), 1);
        Check.due("their grains", yard.cask(1, 13), grains * amount / held);
        Check.due("the grains left", yard.cask(0, 13), grains - grains * amount / held);
    }

    private static void allCallsThatAnObjectHas() {
        Doc.says(Doc.TERMS, "An object is used for at most 512 calls after it has been made");
        CaskYard yard = Yards.casks(1, 1000, 8);
        PlainYard plain = new PlainYard();
        for (int s = 0; s < 3; s++) {
            plain.addStave(100, 100);
        }
        plain.addSort(300, 1000, 8);
        plain.raise(0);
        for (int call = 5; call < 510; call += 5) {
            int n = call / 5;
            Check.due("fill", yard.fill(0, n % 4, 5), plain.fill(0, n % 4, 5));
            Check.due("rack", yard.rack(0, -1, 1), plain.rack(0, -1, 1));
            Check.due("pass", yard.pass(1 + n % 11), plain.pass(1 + n % 11));
            Check.due("drive", yard.drive(0, n % 8, 1), plain.drive(0, n % 8, 1));
            Check.due("taste", Double.compare(yard.taste(), plain.taste()), 0);
        }
        Check.due("the 511th call", yard.addStave(50, 50), plain.addStave(50, 50));
        Check.due("the 512th call", yard.digest(), plain.digest());
    }
}
