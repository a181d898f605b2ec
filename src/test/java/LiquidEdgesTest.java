/** The edges that the document names for liquids: racking among the terms, and promises 11 to 13. */
public final class LiquidEdgesTest {
    public static void main(String[] args) {
        fillUpToTheRoom();
        fillAllFiveLiquids();
        rowOfCasksToFill();
        leastAndMostLiquid();
        leastAndMostAmountToFill();
        fillOfABrokenCask();
        fillingOfAnEmptyCask();
        fillingByRacking();
        fillingBehindALoss();
        rackShareIsCut();
        rackOneMoreInAscendingOrder();
        rackOneMoreOfWhatIsLeft();
        rackAllOfIt();
        rackGreatestAmounts();
        rackGrainsAreCut();
        rackGrainsOfAll();
        pourAway();
        rowOfCasksToRack();
        rackIntoItself();
        leastAndMostAmountToRack();
        rackOfABrokenCask();
        rackMoreThanItHolds();
        rackMoreThanTheRoom();
        rackLeavesMonthsAlone();
        leastAndMostWarmth();
        Doc.refusalsAreQuoted(11, 13);
        Check.end();
    }

    private static void holds(String what, CaskYard yard, int cask, int... due) {
        int all = 0;
        for (int liquid = 0; liquid < 5; liquid++) {
            Check.due(what + ": liquid " + liquid, yard.cask(cask, 8 + liquid), due[liquid]);
            all += due[liquid];
        }
        Check.due(what + ": all", yard.cask(cask, 7), all);
    }

    /** Two tight casks of a room of 1000; the first one holds 80 of each liquid, vinegar too. */
    private static CaskYard fiveLiquids() {
        CaskYard yard = Yards.casks(2, 1000, 8);
        yard.fill(0, 0, 100);
        yard.pass(6);
        Check.due("1 a month is lost", yard.cask(0, 12), 94);
        yard.rack(0, -1, 14);
        for (int liquid = 0; liquid < 4; liquid++) {
            yard.fill(0, liquid, 80);
        }
        return yard;
    }

    private static void fillUpToTheRoom() {
        Doc.says(Doc.TERMS, "together at most its room");
        Doc.says(11, "would hold more than its room");
        Doc.says(11, "Returns all that it holds then.");
        CaskYard yard = Yards.casks(3, 1000, 2);
        Check.refused(yard, "1 more than the room", Check.STATE, () -> yard.fill(0, 0, 1001));
        Check.refused(yard, "far more than the room", Check.STATE, () -> yard.fill(0, 0, 60000));
        Check.due("a refused filling is none", yard.cask(0, 5), 0);
        Check.due("the room at once", yard.fill(0, 0, 1000), 1000);
        Check.refused(yard, "one cup into a full one", Check.STATE, () -> yard.fill(0, 0, 1));
        Check.due("1 less than the room", yard.fill(1, 0, 999), 999);
        Check.refused(yard, "2 more, of another liquid", Check.STATE, () -> yard.fill(1, 3, 2));
        Check.due("1 more, of another liquid", yard.fill(1, 3, 1), 1000);
        Check.refused(yard, "1 more, of a third liquid", Check.STATE, () -> yard.fill(1, 2, 1));
        Check.due("the empty one is empty", yard.cask(2, 7), 0);
    }

    private static void fillAllFiveLiquids() {
        Doc.says(Doc.TERMS, "it holds amounts of five liquids, 0 to 3 and 4, vinegar");
        CaskYard yard = fiveLiquids();
        holds("five liquids", yard, 0, 80, 80, 80, 80, 80);
        Check.refused(yard, "more than the room with vinegar", Check.STATE, () -> yard.fill(0, 3, 601));
        Check.due("the room with vinegar", yard.fill(0, 3, 600), 1000);
        holds("full", yard, 0, 80, 80, 80, 680, 80);
    }

    private static void rowOfCasksToFill() {
        Doc.says(11, "there is no such cask");
        CaskYard yard = Yards.casks(2, 100, 2);
        for (int cask : new int[] {-1, -2, Integer.MIN_VALUE, 2, 11, 12, Integer.MAX_VALUE}) {
            Check.refused(yard, "fill of cask " + cask, Check.INDEX, () -> yard.fill(cask, 0, 1));
        }
        Check.due("the first one", yard.fill(0, 0, 1), 1);
        Check.due("the last one", yard.fill(1, 0, 1), 1);
        CaskYard full = Yards.casks(12, 100, 2);
        Check.due("the 12th", full.fill(11, 0, 1), 1);
        Check.refused(full, "no 13th", Check.INDEX, () -> full.fill(12, 0, 1));
    }

    private static void leastAndMostLiquid() {
        Doc.says(11, "liquid is not 0 to 3");
        CaskYard yard = Yards.casks(1, 100, 2);
        for (int liquid : new int[] {-1, Integer.MIN_VALUE, 4, 5, Integer.MAX_VALUE}) {
            Check.refused(yard, "liquid " + liquid, Check.ARGUMENT, () -> yard.fill(0, liquid, 1));
        }
        Check.due("the first liquid", yard.fill(0, 0, 1), 1);
        Check.due("the last liquid", yard.fill(0, 3, 2), 3);
        holds("both", yard, 0, 1, 0, 0, 2, 0);
    }

    private static void leastAndMostAmountToFill() {
        Doc.says(11, "amount is not 1 to 60000");
        CaskYard yard = Yards.casks(2, 60000, 2);
        for (int amount : new int[] {0, -1, -60000, Integer.MIN_VALUE, 60001, 65537, Integer.MAX_VALUE}) {
            Check.refused(yard, "amount " + amount, Check.ARGUMENT, () -> yard.fill(0, 0, amount));
        }
        Check.due("the least amount", yard.fill(0, 0, 1), 1);
        Check.due("the greatest amount", yard.fill(1, 0, 60000), 60000);
        Check.refused(yard, "60001 into a full one", Check.ARGUMENT, () -> yard.fill(1, 0, 60001));
        Check.refused(yard, "60000 into one that holds 1", Check.STATE, () -> yard.fill(0, 0, 60000));
    }

    private static void fillOfABrokenCask() {
        Doc.says(11, "it is broken up");
        CaskYard yard = Yards.casks(2, 100, 2);
        yard.fill(0, 0, 50);
        yard.breakUp(0);
        Check.refused(yard, "broken up", Check.STATE, () -> yard.fill(0, 0, 1));
        Check.refused(yard, "broken up, with its room", Check.STATE, () -> yard.fill(0, 0, 100));
        Check.due("the sound one", yard.fill(1, 0, 1), 1);
    }

    private static void fillingOfAnEmptyCask() {
        Doc.says(Doc.TERMS, "An empty cask into which something comes has one filling more; "
                + "so it is with filling by hand.");
        CaskYard yard = Yards.casks(2, 100, 2);
        for (int filling = 1; filling <= 10; filling++) {
            yard.fill(0, 0, 1);
            Check.due("one filling more", yard.cask(0, 5), filling);
            yard.fill(0, 1, 1);
            Check.due("it is not empty", yard.cask(0, 5), filling);
            yard.rack(0, -1, 1);
            yard.fill(0, 2, 1);
            Check.due("it is not empty with one cup", yard.cask(0, 5), filling);
            yard.rack(0, -1, 2);
            Check.due("emptied", yard.cask(0, 5), filling);
        }
        Check.due("the other one", yard.cask(1, 5), 0);
    }

    private static void fillingByRacking() {
        CaskYard yard = Yards.casks(2, 100, 2);
        yard.fill(0, 0, 100);
        yard.rack(0, 1, 1);
        Check.due("one filling more", yard.cask(1, 5), 1);
        yard.rack(0, 1, 98);
        Check.due("it is not empty", yard.cask(1, 5), 1);
        yard.rack(1, 0, 98);
        Check.due("it is not empty with one cup", yard.cask(0, 5), 1);
        yard.rack(0, 1, 99);
        Check.due("one cup was in it", yard.cask(1, 5), 1);
        yard.rack(1, 0, 100);
        Check.due("one filling more of the empty one", yard.cask(0, 5), 2);
        Check.due("emptied", yard.cask(1, 5), 1);
        yard.rack(0, -1, 100);
        yard.fill(0, 0, 1);
        yard.rack(0, 1, 1);
        Check.due("one filling more by hand", yard.cask(0, 5), 3);
        Check.due("one filling more by one cup", yard.cask(1, 5), 2);
    }

    private static void fillingBehindALoss() {
        Doc.says(Doc.TERMS, "(Grains are not lost: a cask that has become empty keeps them, "
                + "and its next filling is one more.)");
        CaskYard yard = Yards.casks(2, 1000, 2);
        Yards.crack(yard, 0);
        yard.fill(0, 0, 1000);
        yard.fill(1, 0, 2);
        Check.due("all is lost of the first one", yard.pass(1), 1001);
        Check.due("it is empty", yard.cask(0, 7), 0);
        Check.due("it keeps its grains", yard.cask(0, 13), 70);
        Check.due("its filling is the one that was", yard.cask(0, 5), 1);
        yard.rack(1, 0, 1);
        Check.due("the next filling is one more", yard.cask(0, 5), 2);
        Check.due("its grains are there", yard.cask(0, 13), 70);
        Check.due("a cup is lost", yard.pass(1), 1);
        yard.fill(0, 0, 1);
        Check.due("the next filling by hand is one more", yard.cask(0, 5), 3);
        Check.due("its grains are there still", yard.cask(0, 13), 70);
        yard.rack(0, -1, 1);
        Check.due("with all that it holds they all go", yard.cask(0, 13), 0);
    }

    private static void rackShareIsCut() {
        Doc.says(Doc.TERMS, "of each liquid x * a / m goes (cut)");
        Doc.says(12, "Returns what is left in the first one.");
        CaskYard yard = Yards.casks(2, 1000, 2);
        yard.fill(0, 0, 10);
        yard.fill(0, 1, 30);
        yard.fill(0, 3, 60);
        Check.due("what is left", yard.rack(0, 1, 50), 50);
        holds("nothing to cut", yard, 1, 5, 15, 0, 30, 0);
        // 5 * 7 / 50 is 0, 15 * 7 / 50 is 2 and 30 * 7 / 50 is 4; one is missing
        Check.due("what is left", yard.rack(0, 1, 7), 43);
        holds("cut, and one more", yard, 1, 6, 17, 0, 34, 0);
        holds("what is left", yard, 0, 4, 13, 0, 26, 0);
    }

    private static void rackOneMoreInAscendingOrder() {
        Doc.says(Doc.TERMS, "then, as long as it is less than a in all, 1 more of each liquid, "
                + "in ascending order of these, that has some left, once through, and so on till it is a.");
        int[][] due = {{1, 0, 0, 0, 0}, {1, 1, 0, 0, 0}, {1, 1, 1, 0, 0}, {1, 1, 1, 1, 0}, {1, 1, 1, 1, 1},
            {2, 1, 1, 1, 1}, {2, 2, 1, 1, 1}, {2, 2, 2, 1, 1}, {2, 2, 2, 2, 1}, {2, 2, 2, 2, 2}};
        for (int amount = 1; amount <= due.length; amount++) {
            CaskYard yard = fiveLiquids();
            Check.due("what is left", yard.rack(0, 1, amount), 400 - amount);
            holds(amount + " of five alike", yard, 1, due[amount - 1]);
            CaskYard away = fiveLiquids();
            away.rack(0, -1, amount);
            int[] d = due[amount - 1];
            holds(amount + " poured away", away, 0, 80 - d[0], 80 - d[1], 80 - d[2], 80 - d[3], 80 - d[4]);
        }
        CaskYard most = fiveLiquids();
        Check.due("all but one cup", most.rack(0, 1, 399), 1);
        holds("all but one of the last", most, 1, 80, 80, 80, 80, 79);
    }

    private static void rackOneMoreOfWhatIsLeft() {
        CaskYard yard = Yards.casks(2, 1000, 2);
        yard.fill(0, 1, 1);
        yard.fill(0, 3, 1);
        Check.due("one is left", yard.rack(0, 1, 1), 1);
        holds("none of liquid 0", yard, 1, 0, 1, 0, 0, 0);
        Check.due("none is left", yard.rack(0, 1, 1), 0);
        holds("none of liquids 0 to 2", yard, 1, 0, 1, 0, 1, 0);
        CaskYard few = Yards.casks(2, 1000, 2);
        few.fill(0, 0, 1);
        few.fill(0, 2, 5);
        few.fill(0, 3, 5);
        // 1 * 5 / 11 is 0, 5 * 5 / 11 is 2
        few.rack(0, 1, 5);
        holds("one more of the first", few, 1, 1, 0, 2, 2, 0);
        // none * 1 / 6, 3 * 1 / 6 is 0
        few.rack(0, 1, 1);
        holds("one more of the next that is left", few, 1, 1, 0, 3, 2, 0);
    }

    private static void rackAllOfIt() {
        CaskYard yard = fiveLiquids();
        Check.due("nothing is left", yard.rack(0, 1, 400), 0);
        holds("all went", yard, 0, 0, 0, 0, 0, 0);
        holds("all came", yard, 1, 80, 80, 80, 80, 80);
        CaskYard one = Yards.casks(2, 100, 2);
        one.fill(0, 3, 1);
        Check.due("the only cup", one.rack(0, 1, 1), 0);
        holds("it came", one, 1, 0, 0, 0, 1, 0);
    }

    private static void rackGreatestAmounts() {
        CaskYard yard = Yards.casks(2, 60000, 2);
        yard.fill(0, 0, 40000);
        yard.fill(0, 1, 20000);
        // 40000 * 59999 / 60000 is 39999, 20000 * 59999 / 60000 is 19999
        Check.due("what is left", yard.rack(0, 1, 59999), 1);
        holds("the greatest amounts", yard, 1, 40000, 19999, 0, 0, 0);
        holds("what is left", yard, 0, 0, 1, 0, 0, 0);
        CaskYard full = Yards.casks(2, 60000, 2);
        full.fill(0, 2, 60000);
        Check.due("the room of both", full.rack(0, 1, 60000), 0);
        holds("all of it", full, 1, 0, 0, 60000, 0, 0);
    }

    /** Two tight casks; the first one holds 99 cups and 7 grains. */
    private static CaskYard sevenGrains() {
        CaskYard yard = Yards.casks(2, 1000, 8);
        yard.fill(0, 0, 100);
        Check.due("one cup is lost", yard.pass(1), 1);
        Check.due("7 grains", yard.cask(0, 13), 7);
        return yard;
    }

    private static void rackGrainsAreCut() {
        Doc.says(Doc.TERMS, "Of the grains grains * a / m go (cut), too.");
        int[] amounts = {1, 14, 15, 28, 29, 84, 85, 98, 99};
        int[] due = {0, 0, 1, 1, 2, 5, 6, 6, 7};
        for (int n = 0; n < amounts.length; n++) {
            CaskYard yard = sevenGrains();
            yard.rack(0, 1, amounts[n]);
            Check.due("grains with " + amounts[n], yard.cask(1, 13), due[n]);
            Check.due("grains left with " + amounts[n], yard.cask(0, 13), 7 - due[n]);
            CaskYard away = sevenGrains();
            away.rack(0, -1, amounts[n]);
            Check.due("grains left, poured away " + amounts[n], away.cask(0, 13), 7 - due[n]);
            Check.due("no grains elsewhere", away.cask(1, 13), 0);
        }
    }

    private static void rackGrainsOfAll() {
        CaskYard yard = Yards.casks(3, 60000, 8);
        yard.fill(0, 0, 30000);
        yard.fill(1, 0, 20000);
        yard.pass(1);
        int left = yard.cask(0, 7);
        Check.due("grains", yard.cask(0, 13), 2100);
        Check.due("grains", yard.cask(1, 13), 1400);
        yard.rack(0, 1, left);
        Check.due("all grains came to those that were there", yard.cask(1, 13), 3500);
        Check.due("none is left", yard.cask(0, 13), 0);
        Check.due("cups with them", yard.cask(1, 7), 29850 + 19900);
        yard.rack(1, 2, 14);
        Check.due("3500 * 14 / 49750 is less than one", yard.cask(2, 13), 0);
        yard.rack(1, 2, 15);
        Check.due("3500 * 15 / 49736 is one", yard.cask(2, 13), 1);
        Check.due("one less", yard.cask(1, 13), 3499);
    }

    private static void pourAway() {
        Doc.says(12, "the other cask; -1 to pour away");
        CaskYard yard = Yards.casks(2, 60000, 2);
        yard.fill(0, 0, 60000);
        Check.due("one cup", yard.rack(0, -1, 1), 59999);
        Check.due("all the rest", yard.rack(0, -1, 59999), 0);
        yard.fill(0, 0, 60000);
        Check.due("all at once, the ground is never full", yard.rack(0, -1, 60000), 0);
        Check.refused(yard, "one cup of an empty one", Check.STATE, () -> yard.rack(0, -1, 1));
        Check.due("what all hold", yard.count(6), 0);
        Check.due("it is not lost", yard.count(8), 0);
        Check.due("fillings of the other one", yard.cask(1, 5), 0);
        yard.fill(1, 0, 5);
        Check.due("the last cask", yard.rack(1, -1, 5), 0);
    }

    private static void rowOfCasksToRack() {
        Doc.says(12, "there is no such cask");
        CaskYard yard = Yards.casks(2, 100, 2);
        yard.fill(0, 0, 10);
        yard.fill(1, 0, 10);
        for (int cask : new int[] {-1, -2, Integer.MIN_VALUE, 2, 11, 12, Integer.MAX_VALUE}) {
            Check.refused(yard, "rack from " + cask, Check.INDEX, () -> yard.rack(cask, 0, 1));
            Check.refused(yard, "rack away from " + cask, Check.INDEX, () -> yard.rack(cask, -1, 1));
            if (cask != -1) {
                Check.refused(yard, "rack to " + cask, Check.INDEX, () -> yard.rack(0, cask, 1));
            }
        }
        Check.due("from the first to the last", yard.rack(0, 1, 1), 9);
        Check.due("from the last to the first", yard.rack(1, 0, 2), 9);
        CaskYard full = Yards.casks(12, 100, 2);
        full.fill(11, 0, 9);
        Check.due("from the 12th", full.rack(11, 10, 9), 0);
        Check.due("to the 12th", full.rack(10, 11, 5), 4);
        Check.refused(full, "no 13th", Check.INDEX, () -> full.rack(11, 12, 1));
    }

    private static void rackIntoItself() {
        Doc.says(12, "both are the same");
        CaskYard yard = Yards.casks(3, 100, 2);
        yard.fill(0, 0, 50);
        yard.breakUp(2);
        for (int cask = 0; cask < 3; cask++) {
            int c = cask;
            Check.refused(yard, "rack from " + c + " to " + c, Check.ARGUMENT, () -> yard.rack(c, c, 1));
        }
        Check.refused(yard, "pour from the ground", Check.INDEX, () -> yard.rack(-1, -1, 1));
        Check.due("to another one", yard.rack(0, 1, 1), 49);
    }

    private static void leastAndMostAmountToRack() {
        Doc.says(12, "amount is not 1 to 60000");
        CaskYard yard = Yards.casks(2, 60000, 2);
        yard.fill(0, 0, 60000);
        for (int amount : new int[] {0, -1, -60000, Integer.MIN_VALUE, 60001, 65537, Integer.MAX_VALUE}) {
            Check.refused(yard, "amount " + amount, Check.ARGUMENT, () -> yard.rack(0, 1, amount));
            Check.refused(yard, "amount " + amount + " away", Check.ARGUMENT, () -> yard.rack(0, -1, amount));
            Check.refused(yard, "amount " + amount + " of none", Check.ARGUMENT, () -> yard.rack(1, 0, amount));
        }
        Check.due("the least amount", yard.rack(0, 1, 1), 59999);
        yard.rack(1, 0, 1);
        Check.due("the greatest amount", yard.rack(0, 1, 60000), 0);
    }

    private static void rackOfABrokenCask() {
        Doc.says(12, "one of them is broken up");
        CaskYard yard = Yards.casks(3, 100, 2);
        yard.fill(0, 0, 50);
        yard.fill(1, 0, 50);
        yard.breakUp(1);
        Check.refused(yard, "from a broken one", Check.STATE, () -> yard.rack(1, 0, 1));
        Check.refused(yard, "to a broken one", Check.STATE, () -> yard.rack(0, 1, 1));
        Check.refused(yard, "away from a broken one", Check.STATE, () -> yard.rack(1, -1, 1));
        Check.refused(yard, "50 to a broken one", Check.STATE, () -> yard.rack(0, 1, 50));
        Check.due("between sound ones", yard.rack(0, 2, 50), 0);
    }

    private static void rackMoreThanItHolds() {
        Doc.says(12, "the first one holds less");
        CaskYard yard = Yards.casks(3, 1000, 2);
        yard.fill(0, 0, 20);
        yard.fill(0, 2, 30);
        Check.refused(yard, "1 more than it holds", Check.STATE, () -> yard.rack(0, 1, 51));
        Check.refused(yard, "1 more than it holds, away", Check.STATE, () -> yard.rack(0, -1, 51));
        Check.refused(yard, "one cup of an empty one", Check.STATE, () -> yard.rack(1, 2, 1));
        Check.due("a refused filling is none", yard.cask(1, 5), 0);
        Check.due("1 less than it holds", yard.rack(0, 1, 49), 1);
        Check.refused(yard, "two of one", Check.STATE, () -> yard.rack(0, 1, 2));
        Check.due("just what it holds", yard.rack(0, 1, 1), 0);
        Check.refused(yard, "one of none", Check.STATE, () -> yard.rack(0, 1, 1));
    }

    private static void rackMoreThanTheRoom() {
        Doc.says(12, "the second one would hold more than its room");
        CaskYard yard = Yards.staves(6);
        yard.addSort(300, 1000, 2);
        yard.addSort(300, 100, 2);
        yard.raise(0);
        yard.raise(1);
        yard.fill(0, 0, 500);
        Check.refused(yard, "1 more than its room", Check.STATE, () -> yard.rack(0, 1, 101));
        Check.due("a refused filling is none", yard.cask(1, 5), 0);
        Check.due("1 less than its room", yard.rack(0, 1, 99), 401);
        Check.refused(yard, "2 more with the rest", Check.STATE, () -> yard.rack(0, 1, 2));
        Check.due("just its room", yard.rack(0, 1, 1), 400);
        Check.refused(yard, "one into a full one", Check.STATE, () -> yard.rack(0, 1, 1));
        yard.fill(0, 3, 501);
        Check.refused(yard, "100 to one with a room for 99", Check.STATE, () -> yard.rack(1, 0, 100));
        Check.due("99", yard.rack(1, 0, 99), 1);
        Check.due("it is full", yard.cask(0, 7), 1000);
    }

    private static void rackLeavesMonthsAlone() {
        CaskYard yard = Yards.casks(2, 1000, 8);
        yard.fill(0, 0, 600);
        yard.pass(2);
        yard.rack(0, 1, 300);
        yard.rack(0, -1, yard.cask(0, 7));
        Check.due("air months stay till the month ends", yard.cask(0, 6), 2);
        Check.due("swelling stays", yard.cask(0, 4), 10);
        Check.due("no air months come over", yard.cask(1, 6), 0);
        Check.due("no swelling comes over", yard.cask(1, 4), 0);
        yard.pass(3);
        Check.due("air months of the other one", yard.cask(1, 6), 3);
        yard.fill(0, 1, 900);
        yard.rack(0, 1, 600);
        Check.due("what comes in ends none ahead of the month", yard.cask(1, 6), 3);
        yard.pass(1);
        Check.due("the month does", yard.cask(1, 6), 0);
    }

    private static void leastAndMostWarmth() {
        Doc.says(Doc.TERMS, "The warmth of the house is 0 to 9 (2, at first).");
        Doc.says(13, "warmth is not 0 to 9");
        CaskYard yard = new CaskYard();
        for (int warmth : new int[] {-1, Integer.MIN_VALUE, 10, Integer.MAX_VALUE}) {
            Check.refused(yard, "warmth " + warmth, Check.ARGUMENT, () -> yard.setWarmth(warmth));
        }
        Check.due("2 at first", yard.count(9), 2);
        Check.due("the warmth before", yard.setWarmth(0), 2);
        Check.due("the least warmth", yard.count(9), 0);
        Check.due("the warmth before", yard.setWarmth(9), 0);
        Check.due("the greatest warmth", yard.count(9), 9);
        Check.due("the same again", yard.setWarmth(9), 9);
    }
}
