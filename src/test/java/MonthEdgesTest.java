/** The edges that the document names for a month, as the terms tell it: oak, swelling, loss, air and hoops. */
public final class MonthEdgesTest {
    public static void main(String[] args) {
        monthIsOneGreater();
        monthOfSoundCasks();
        oakOfHundreds();
        oakAheadOfTheLoss();
        oakOfSomething();
        oakUpToTheEighthFilling();
        swellingFromHalfOfTheRoom();
        swellingAheadOfTheLoss();
        swellingAtMost20();
        swellingAtLeast0();
        leakAtLeast0();
        leakOfFlawsAndTensions();
        lossOfWarmth();
        lossIsCut();
        lossAtLeast1();
        lossAtMostAll();
        lossOfEachLiquid();
        lossBehindTheSwelling();
        airBelowFourFifths();
        airBehindTheLoss();
        airOfSomething();
        airEndsWhenFull();
        vinegarWithSix();
        vinegarOfEachLiquid();
        vinegarAlone();
        vinegarAgain();
        twelfthMonth();
        twelfthMonthOfAll();
        twelfthMonthNotBelow0();
        twelfthMonthBehindTheLoss();
        Check.end();
    }

    private static void monthIsOneGreater() {
        Doc.says(Doc.TERMS, "Behind the month the number of the month is 1 greater.");
        CaskYard yard = new CaskYard();
        yard.pass(1);
        Check.due("one month", yard.count(0), 1);
        yard.pass(2);
        Check.due("two more", yard.count(0), 3);
        yard.pass(60);
        Check.due("sixty more", yard.count(0), 63);
    }

    private static void monthOfSoundCasks() {
        Doc.says(Doc.TERMS, "first the staves in the yard season. Then for each sound cask, in ascending order:");
        CaskYard yard = Yards.casks(12, 100, 2);
        for (int c = 0; c < 12; c++) {
            yard.fill(c, 0, 100);
        }
        yard.breakUp(0);
        yard.breakUp(5);
        yard.breakUp(11);
        // leak 30 - 12 - 5, with 3 and 2: 18 thousandths of 100
        Check.due("1 of each of nine casks", yard.pass(1), 9);
        for (int c = 0; c < 12; c++) {
            boolean broken = c == 0 || c == 5 || c == 11;
            Check.due("held by " + c, yard.cask(c, 7), broken ? 0 : 99);
            Check.due("grains of " + c, yard.cask(c, 13), broken ? 0 : 7);
            Check.due("swelling of " + c, yard.cask(c, 4), broken ? 0 : 5);
        }
    }

    /** The grains that a tight cask of a room of 60000 has a month after it was filled so often, and with so much. */
    private static int grains(int fillings, int amount) {
        CaskYard yard = Yards.casks(1, 60000, 8);
        for (int filling = 1; filling < fillings; filling++) {
            yard.fill(0, 0, 1);
            yard.rack(0, -1, 1);
        }
        yard.fill(0, 0, amount);
        Check.due("fillings", yard.cask(0, 5), fillings);
        yard.pass(1);
        return yard.cask(0, 13);
    }

    private static void oakOfHundreds() {
        Doc.says(Doc.TERMS, "it gets grains: what it holds / 100, times (8 less its fillings)");
        Doc.says(Doc.TERMS, "/ is cut towards 0");
        int[] amounts = {1, 99, 100, 101, 199, 200, 1099, 1100, 59999, 60000};
        int[] due = {0, 0, 7, 7, 7, 14, 70, 77, 4193, 4200};
        for (int n = 0; n < amounts.length; n++) {
            Check.due("grains of " + amounts[n], grains(1, amounts[n]), due[n]);
        }
        CaskYard yard = Yards.casks(1, 1000, 8);
        for (int liquid = 0; liquid < 4; liquid++) {
            yard.fill(0, liquid, 50);
        }
        yard.pass(1);
        Check.due("grains of 200 in four liquids", yard.cask(0, 13), 14);
    }

    private static void oakAheadOfTheLoss() {
        CaskYard yard = Yards.casks(1, 1000, 8);
        yard.fill(0, 0, 100);
        yard.pass(1);
        Check.due("99 are left", yard.cask(0, 7), 99);
        Check.due("grains of the 100 ahead of the loss", yard.cask(0, 13), 7);
        yard.pass(1);
        Check.due("none of 99", yard.cask(0, 13), 7);
    }

    private static void oakOfSomething() {
        Doc.says(Doc.TERMS, "If it holds something, it gets grains");
        CaskYard yard = Yards.casks(1, 1000, 8);
        yard.pass(12);
        Check.due("an empty one gets none", yard.cask(0, 13), 0);
        yard.fill(0, 0, 200);
        yard.rack(0, -1, 200);
        yard.pass(12);
        Check.due("an empty one gets none behind a filling", yard.cask(0, 13), 0);
    }

    private static void oakUpToTheEighthFilling() {
        Doc.says(Doc.TERMS, "times (8 less its fillings), if that is greater than 0");
        for (int fillings = 1; fillings <= 10; fillings++) {
            Check.due("8 less " + fillings, grains(fillings, 100), Math.max(0, 8 - fillings));
            Check.due("3 times 8 less " + fillings, grains(fillings, 300), 3 * Math.max(0, 8 - fillings));
        }
        CaskYard yard = Yards.casks(1, 60000, 8);
        yard.fill(0, 0, 60000);
        yard.pass(1);
        for (int filling = 2; filling <= 9; filling++) {
            yard.rack(0, -1, yard.cask(0, 7));
            yard.fill(0, 0, 60000);
        }
        Check.due("nine fillings", yard.cask(0, 5), 9);
        Check.due("no grains are left", yard.cask(0, 13), 0);
        yard.pass(1);
        Check.due("and none get less", yard.cask(0, 13), 0);
    }

    private static int swelling(int room, int amount) {
        CaskYard yard = Yards.casks(1, room, 8);
        yard.fill(0, 0, amount);
        yard.pass(1);
        return yard.cask(0, 4);
    }

    private static void swellingFromHalfOfTheRoom() {
        Doc.says(Doc.TERMS, "If it holds at least half of its room (twice what it holds is at least the room), "
                + "it swells by 5 more");
        Check.due("half of 1000", swelling(1000, 500), 5);
        Check.due("1 less than half of 1000", swelling(1000, 499), 0);
        Check.due("the greater half of 1001", swelling(1001, 501), 5);
        Check.due("the smaller half of 1001", swelling(1001, 500), 0);
        Check.due("half of 60000", swelling(60000, 30000), 5);
        Check.due("1 less than half of 60000", swelling(60000, 29999), 0);
        Check.due("half of 100", swelling(100, 50), 5);
        Check.due("1 less than half of 100", swelling(100, 49), 0);
        Check.due("full", swelling(100, 100), 5);
    }

    private static void swellingAheadOfTheLoss() {
        CaskYard yard = Yards.casks(1, 100, 8);
        yard.fill(0, 0, 50);
        yard.pass(1);
        Check.due("less than half is left", yard.cask(0, 7), 49);
        Check.due("it had half ahead of the loss", yard.cask(0, 4), 5);
        yard.pass(1);
        Check.due("less than half, 3 less", yard.cask(0, 4), 2);
    }

    private static void swellingAtMost20() {
        Doc.says(Doc.TERMS, "it swells by 5 more (at most 20)");
        CaskYard yard = Yards.casks(1, 1000, 8);
        yard.fill(0, 0, 1000);
        int[] due = {5, 10, 15, 20, 20, 20};
        for (int swelling : due) {
            yard.pass(1);
            Check.due("swelling", yard.cask(0, 4), swelling);
        }
        yard.rack(0, -1, yard.cask(0, 7));
        yard.pass(1);
        Check.due("3 less", yard.cask(0, 4), 17);
        yard.fill(0, 0, 1000);
        yard.pass(1);
        Check.due("at most 20, from 17", yard.cask(0, 4), 20);
        yard.rack(0, -1, yard.cask(0, 7));
        yard.pass(2);
        Check.due("6 less", yard.cask(0, 4), 14);
        yard.fill(0, 0, 1000);
        yard.pass(1);
        Check.due("5 more, from 14", yard.cask(0, 4), 19);
    }

    private static void swellingAtLeast0() {
        Doc.says(Doc.TERMS, "otherwise by 3 less (at least 0)");
        CaskYard yard = Yards.casks(1, 1000, 8);
        yard.pass(1);
        Check.due("from 0", yard.cask(0, 4), 0);
        yard.fill(0, 0, 1000);
        yard.pass(4);
        yard.rack(0, -1, yard.cask(0, 7));
        int[] due = {17, 14, 11, 8, 5, 2, 0, 0};
        for (int swelling : due) {
            yard.pass(1);
            Check.due("swelling of an empty one", yard.cask(0, 4), swelling);
        }
        yard.fill(0, 0, 500);
        yard.pass(2);
        Check.due("5, and 3 less", yard.cask(0, 4), 2);
        yard.fill(0, 0, 500);
        yard.pass(2);
        Check.due("2, and 10 more", yard.cask(0, 4), 12);
        yard.rack(0, -1, yard.cask(0, 7));
        yard.pass(4);
        Check.due("12, and 12 less", yard.cask(0, 4), 0);
    }

    private static void leakAtLeast0() {
        Doc.says(Doc.TERMS, "Its leak is 30 and 10 for each flaw, less twice the tensions of all hoops together, "
                + "less its swelling, at least 0.");
        int[] hoops = {2, 3, 4, 5, 6, 7, 8};
        int[] due = {18, 12, 6, 0, 0, 0, 0};
        for (int n = 0; n < hoops.length; n++) {
            CaskYard yard = Yards.casks(1, 1000, hoops[n]);
            Check.due("leak of " + hoops[n] + " hoops", yard.cask(0, 14), due[n]);
        }
        CaskYard yard = Yards.casks(1, 1000, 4);
        yard.fill(0, 0, 1000);
        yard.pass(1);
        Check.due("30 less 24, less 5", yard.cask(0, 14), 1);
        yard.pass(1);
        Check.due("30 less 24, less 10", yard.cask(0, 14), 0);
        CaskYard tight = Yards.casks(1, 1000, 8);
        tight.setWarmth(9);
        tight.fill(0, 0, 1000);
        Check.due("no leak, with 3 and 9: 12 thousandths", tight.pass(1), 12);
        Check.due("no leak", tight.cask(0, 14), 0);
    }

    private static void leakOfFlawsAndTensions() {
        CaskYard yard = new CaskYard();
        for (int s = 0; s < 3; s++) {
            yard.addStave(100, 69);
        }
        yard.addSort(300, 1000, 2);
        yard.raise(0);
        Check.due("30, and 30 of three flaws, less 12", yard.cask(0, 14), 48);
        yard.drive(0, 0, 1);
        Check.due("2 less for each of tension", yard.cask(0, 14), 46);
        yard.drive(0, 1, 9);
        Check.due("a crack, and 12 less", yard.cask(0, 14), 44);
        yard.fill(0, 0, 1000);
        Check.due("39, with 3 and 2: 44 thousandths", yard.pass(1), 44);
        Check.due("5 less for its swelling", yard.cask(0, 14), 39);
    }

    private static void lossOfWarmth() {
        Doc.says(Doc.TERMS, "What is lost of each liquid: amount * (leak, 3 and the warmth) / 1000");
        for (int warmth = 0; warmth <= 9; warmth++) {
            CaskYard yard = Yards.casks(1, 60000, 8);
            yard.setWarmth(warmth);
            yard.fill(0, 0, 60000);
            Check.due("lost with the warmth " + warmth, yard.pass(1), 60 * (3 + warmth));
        }
        CaskYard yard = Yards.casks(1, 60000, 8);
        yard.fill(0, 0, 60000);
        Check.due("the warmth is 2 at first", yard.pass(1), 300);
    }

    /** What a tight cask loses of so much in a cold month. */
    private static int coldLoss(int amount) {
        CaskYard yard = Yards.casks(1, 60000, 8);
        yard.setWarmth(0);
        yard.fill(0, 0, amount);
        int lost = yard.pass(1);
        Check.due("what is left", yard.cask(0, 7), amount - lost);
        Check.due("lost in all months", yard.count(8), lost);
        return lost;
    }

    private static void lossIsCut() {
        int[] amounts = {666, 667, 999, 1000, 1333, 1334, 59999, 60000};
        int[] due = {1, 2, 2, 3, 3, 4, 179, 180};
        for (int n = 0; n < amounts.length; n++) {
            Check.due("3 thousandths of " + amounts[n], coldLoss(amounts[n]), due[n]);
        }
    }

    private static void lossAtLeast1() {
        Doc.says(Doc.TERMS, "but at least 1, if there is some of it, and at most all of it.");
        int[] amounts = {1, 2, 332, 333, 334};
        for (int amount : amounts) {
            Check.due("at least 1 of " + amount, coldLoss(amount), 1);
        }
        CaskYard empty = Yards.casks(1, 60000, 2);
        empty.setWarmth(9);
        Check.due("none of an empty one", empty.pass(60), 0);
        CaskYard some = Yards.casks(1, 60000, 8);
        some.setWarmth(0);
        some.fill(0, 0, 1);
        some.fill(0, 2, 2);
        some.fill(0, 3, 1000);
        Check.due("1 of each that is there, 3 of the last", some.pass(1), 5);
        Check.due("at least 1 of what is left", some.pass(1), 1 + 2);
        Check.due("none of those that are not there any more", some.pass(1), 2);
    }

    private static void lossAtMostAll() {
        int[] warmths = {6, 7, 8, 9};
        int[] due = {998, 999, 1000, 1000};
        for (int n = 0; n < warmths.length; n++) {
            CaskYard yard = Yards.casks(1, 1000, 2);
            yard.drive(0, 0, 9);
            yard.drive(0, 1, 9);
            for (int flaw = 2; flaw < 100; flaw++) {
                yard.drive(0, 0, 1);
            }
            Check.due("leak of 100 flaws", yard.cask(0, 14), 30 + 1000 - 36);
            yard.setWarmth(warmths[n]);
            yard.fill(0, 0, 1000);
            Check.due(992 + warmths[n] + " thousandths", yard.pass(1), due[n]);
            Check.due("what is left", yard.cask(0, 7), 1000 - due[n]);
        }
        CaskYard great = Yards.casks(1, 60000, 2);
        Yards.crack(great, 0);
        great.fill(0, 0, 1);
        great.fill(0, 1, 59999);
        Check.due("at most all of each", great.pass(1), 60000);
        for (int what = 7; what <= 12; what++) {
            Check.due("nothing is left", great.cask(0, what), 0);
        }
    }

    private static void lossOfEachLiquid() {
        CaskYard yard = Yards.casks(1, 1000, 8);
        yard.setWarmth(0);
        yard.fill(0, 0, 400);
        yard.pass(6);
        Check.due("vinegar", yard.cask(0, 12), 394);
        for (int liquid = 0; liquid < 4; liquid++) {
            yard.fill(0, liquid, 100 + liquid);
        }
        Check.due("1 of each of five, vinegar too", yard.pass(1), 5);
        Check.due("vinegar", yard.cask(0, 12), 393);
        for (int liquid = 0; liquid < 4; liquid++) {
            Check.due("liquid " + liquid, yard.cask(0, 8 + liquid), 99 + liquid);
        }
    }

    private static void lossBehindTheSwelling() {
        CaskYard yard = Yards.casks(1, 1000, 2);
        yard.fill(0, 0, 1000);
        Check.due("leak ahead of the month", yard.cask(0, 14), 18);
        // 13 behind the swelling, with 3 and 2
        Check.due("lost", yard.pass(1), 18);
        Check.due("leak behind the month", yard.cask(0, 14), 13);
    }

    /** The air months a cold month after a tight cask of this room was filled with so much. */
    private static int air(int room, int amount, int left) {
        CaskYard yard = Yards.casks(1, room, 8);
        yard.setWarmth(0);
        yard.fill(0, 0, amount);
        yard.pass(1);
        Check.due("left of " + amount, yard.cask(0, 7), left);
        return yard.cask(0, 6);
    }

    private static void airBelowFourFifths() {
        Doc.says(Doc.TERMS, "If it holds something, and less than four fifths of its room "
                + "(5 * what it holds is less than 4 * the room), it has one air month more; otherwise it has none.");
        Check.due("four fifths of 100", air(100, 81, 80), 0);
        Check.due("1 less than four fifths of 100", air(100, 80, 79), 1);
        Check.due("more than four fifths of 101", air(101, 82, 81), 0);
        Check.due("less than four fifths of 101", air(101, 81, 80), 1);
        Check.due("more than four fifths of 104", air(104, 85, 84), 0);
        Check.due("less than four fifths of 104", air(104, 84, 83), 1);
        Check.due("four fifths of 60000", air(60000, 48144, 48000), 0);
        Check.due("1 less than four fifths of 60000", air(60000, 48143, 47999), 1);
        Check.due("one cup", air(100, 2, 1), 1);
        Check.due("full", air(100, 100, 99), 0);
    }

    private static void airBehindTheLoss() {
        CaskYard yard = Yards.casks(2, 1000, 2);
        yard.setWarmth(0);
        yard.fill(0, 0, 800);
        yard.fill(1, 0, 812);
        // leak 13, and 3: 16 thousandths, 12 of each
        Check.due("lost", yard.pass(1), 24);
        Check.due("four fifths ahead of the loss", yard.cask(0, 6), 1);
        Check.due("four fifths behind the loss", yard.cask(1, 6), 0);
    }

    private static void airOfSomething() {
        CaskYard yard = Yards.casks(2, 100, 8);
        yard.fill(0, 0, 4);
        yard.pass(3);
        Check.due("one cup is left", yard.cask(0, 7), 1);
        Check.due("three air months", yard.cask(0, 6), 3);
        yard.pass(1);
        Check.due("nothing is left", yard.cask(0, 7), 0);
        Check.due("no air months", yard.cask(0, 6), 0);
        yard.fill(0, 0, 4);
        yard.pass(1);
        Check.due("they start anew", yard.cask(0, 6), 1);
        Check.due("an empty one has none", yard.cask(1, 6), 0);
    }

    private static void airEndsWhenFull() {
        CaskYard yard = Yards.casks(1, 100, 8);
        yard.fill(0, 0, 50);
        yard.pass(5);
        Check.due("five air months", yard.cask(0, 6), 5);
        yard.fill(0, 0, 36);
        Check.due("filled up", yard.cask(0, 7), 81);
        yard.pass(1);
        Check.due("four fifths", yard.cask(0, 7), 80);
        Check.due("none any more", yard.cask(0, 6), 0);
        Check.due("no vinegar", yard.cask(0, 12), 0);
        yard.pass(5);
        Check.due("five anew", yard.cask(0, 6), 5);
        Check.due("no vinegar yet", yard.cask(0, 12), 0);
        yard.pass(1);
        Check.due("vinegar with six", yard.cask(0, 12), 74);
    }

    private static void vinegarWithSix() {
        Doc.says(Doc.TERMS, "With 6 of them all that it holds is vinegar from now on, and it has none.");
        CaskYard yard = Yards.casks(1, 1000, 8);
        yard.fill(0, 2, 100);
        for (int month = 1; month <= 5; month++) {
            yard.pass(1);
            Check.due("air months", yard.cask(0, 6), month);
            Check.due("no vinegar", yard.cask(0, 12), 0);
            Check.due("liquid 2", yard.cask(0, 10), 100 - month);
        }
        yard.pass(1);
        Check.due("none with six", yard.cask(0, 6), 0);
        Check.due("all is vinegar", yard.cask(0, 12), 94);
        Check.due("no liquid 2", yard.cask(0, 10), 0);
        Check.due("vinegar of all", yard.count(7), 94);
        yard.fill(0, 2, 10);
        Check.due("what comes in is no vinegar", yard.cask(0, 10), 10);
        yard.pass(1);
        Check.due("one anew", yard.cask(0, 6), 1);
        Check.due("nor a month later", yard.cask(0, 10), 9);
    }

    private static void vinegarOfEachLiquid() {
        CaskYard yard = Yards.casks(2, 1000, 8);
        for (int liquid = 0; liquid < 4; liquid++) {
            yard.fill(0, liquid, 20 + liquid);
            yard.fill(1, liquid, 220);
        }
        yard.pass(6);
        Check.due("6 less of each, all vinegar", yard.cask(0, 12), 86 - 24);
        for (int liquid = 0; liquid < 4; liquid++) {
            Check.due("none of liquid " + liquid, yard.cask(0, 8 + liquid), 0);
            Check.due("the full one is not", yard.cask(1, 8 + liquid) > 200 ? 1 : 0, 1);
        }
        Check.due("the full one has none", yard.cask(1, 12), 0);
    }

    private static void vinegarAlone() {
        CaskYard yard = Yards.casks(1, 1000, 8);
        yard.fill(0, 0, 207);
        yard.pass(6);
        Check.due("vinegar alone", yard.cask(0, 12), 201);
        // 14 of six months, the cups being 207 to 202 ahead of their losses
        Check.due("grains", yard.cask(0, 13), 84);
        yard.pass(1);
        Check.due("vinegar takes oak, too", yard.cask(0, 13), 98);
        Check.due("it has an air month, too", yard.cask(0, 6), 1);
        Check.due("it gets less, too", yard.cask(0, 12), 200);
    }

    private static void vinegarAgain() {
        CaskYard yard = Yards.casks(1, 1000, 8);
        yard.fill(0, 0, 100);
        yard.pass(6);
        yard.fill(0, 1, 20);
        yard.pass(5);
        Check.due("vinegar has air months, too", yard.cask(0, 6), 5);
        Check.due("liquid 1", yard.cask(0, 9), 15);
        Check.due("vinegar", yard.cask(0, 12), 89);
        yard.pass(1);
        Check.due("none with six", yard.cask(0, 6), 0);
        Check.due("no liquid 1", yard.cask(0, 9), 0);
        Check.due("all is vinegar again", yard.cask(0, 12), 14 + 88);
    }

    private static void twelfthMonth() {
        Doc.says(Doc.TERMS, "Each twelfth month (when the month that is now, counted from 1 for the first one, "
                + "is a multiple of 12)");
        CaskYard yard = Yards.casks(1, 100, 8);
        for (int month = 1; month <= 37; month++) {
            yard.pass(1);
            Check.due("tensions behind month " + month, yard.cask(0, 3), 8 * (3 - month / 12));
        }
        CaskYard late = Yards.staves(3);
        late.addSort(300, 100, 8);
        late.pass(11);
        late.raise(0);
        late.pass(1);
        Check.due("it is the house's month, not the cask's", late.cask(0, 3), 16);
    }

    private static void twelfthMonthOfAll() {
        CaskYard yard = Yards.casks(12, 100, 2);
        yard.drive(3, 1, 4);
        yard.breakUp(4);
        yard.pass(12);
        for (int c = 0; c < 12; c++) {
            Check.due("tensions of " + c, yard.cask(c, 3), c == 4 ? 0 : c == 3 ? 8 : 4);
        }
        CaskYard once = Yards.casks(1, 100, 2);
        once.pass(60);
        Check.due("five years in one call", once.cask(0, 3), 0);
        CaskYard tight = Yards.casks(1, 100, 2);
        tight.drive(0, 0, 6);
        tight.pass(60);
        Check.due("five years of 9 and 3", tight.cask(0, 3), 4);
    }

    private static void twelfthMonthNotBelow0() {
        Doc.says(Doc.TERMS, "each hoop with a tension greater than 0 has 1 less");
        CaskYard yard = Yards.casks(1, 100, 3);
        yard.drive(0, 1, 1);
        int[] due = {7, 4, 1, 0, 0};
        for (int tensions : due) {
            yard.pass(12);
            Check.due("tensions", yard.cask(0, 3), tensions);
        }
        Check.due("driven from 0", yard.drive(0, 0, 1), 1);
        Check.due("driven from 0", yard.drive(0, 1, 2), 2);
        yard.pass(12);
        Check.due("1 and 2", yard.cask(0, 3), 1);
        Check.due("the one that had 2", yard.drive(0, 1, 1), 2);
        Check.due("the one that had 1", yard.drive(0, 0, 1), 1);
        Check.due("the one that had none", yard.drive(0, 2, 1), 1);
    }

    private static void twelfthMonthBehindTheLoss() {
        CaskYard yard = Yards.casks(1, 1000, 4);
        yard.pass(11);
        yard.fill(0, 0, 1000);
        // leak 30 - 24 - 5, with 3 and 2: 6 thousandths; the hoops loosen behind it
        Check.due("lost in the twelfth month", yard.pass(1), 6);
        Check.due("leak then", yard.cask(0, 14), 30 - 16 - 5);
        // leak 30 - 16 - 10, with 3 and 2: 9 thousandths of 994
        Check.due("lost in the thirteenth month", yard.pass(1), 8);
    }
}
