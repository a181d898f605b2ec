/** Promises 14 to 19: pass, count, foresee, blend, taste, digest. */
public final class MonthTest {
    public static void main(String[] args) {
        seasoning();
        months();
        oak();
        swelling();
        loss();
        lossOfAll();
        air();
        airEdge();
        airEnds();
        airOfOneCup();
        loosening();
        passWrong();
        count();
        foresee();
        foreseeLoosening();
        foreseeFlaws();
        foreseeWrong();
        blend();
        blendTies();
        blendCasks();
        blendRichest();
        blendExact();
        blendWrong();
        fullYard();
        fullYardDigest();
        taste();
        digest();
        Check.end();
    }

    private static void seasoning() {
        CaskYard yard = new CaskYard();
        int[] before = {50, 97, 0, 100, 96, 65};
        for (int dryness : before) {
            yard.addStave(50, dryness);
        }
        for (int s = 0; s < 3; s++) {
            yard.addStave(100, 90);
        }
        yard.addSort(300, 100, 2);
        yard.raise(0);
        yard.pass(1);
        int[] due = {54, 100, 4, 100, 100, 69, 90, 90, 90};
        for (int s = 0; s < due.length; s++) {
            Check.due("the dryness of " + s, yard.stave(s, 1), due[s]);
        }
        yard.breakUp(0);
        yard.pass(60);
        for (int s = 0; s < due.length; s++) {
            Check.due("the dryness of " + s, yard.stave(s, 1), s == 6 ? 60 : 100);
        }
    }

    private static void months() {
        CaskYard yard = Yards.casks(1, 1000, 2);
        yard.fill(0, 0, 1000);
        int[] lost = {18, 12, 7, 4, 4};
        int[] grains = {70, 133, 196, 259, 322};
        int[] swelling = {5, 10, 15, 20, 20};
        int[] leak = {13, 8, 3, 0, 0};
        int held = 1000;
        for (int m = 0; m < 5; m++) {
            Check.due("lost", yard.pass(1), lost[m]);
            held -= lost[m];
            Check.due("month", yard.count(0), m + 1);
            Check.due("held", yard.cask(0, 7), held);
            Check.due("grains", yard.cask(0, 13), grains[m]);
            Check.due("swelling", yard.cask(0, 4), swelling[m]);
            Check.due("leak", yard.cask(0, 14), leak[m]);
            Check.due("air months", yard.cask(0, 6), 0);
        }
        CaskYard other = Yards.casks(2, 1000, 2);
        other.fill(0, 0, 1000);
        other.fill(1, 3, 1000);
        Check.due("lost in all months of all casks", other.pass(5), 90);
        Check.due("held", other.cask(0, 7), 955);
        Check.due("month", other.count(0), 5);
    }

    private static void oak() {
        CaskYard yard = Yards.casks(1, 1000, 8);
        for (int filling = 1; filling <= 9; filling++) {
            yard.fill(0, 0, 399);
            Check.due("filling", yard.cask(0, 5), filling);
            int before = yard.cask(0, 13);
            yard.pass(1);
            Check.due("3 times 8 less its fillings", yard.cask(0, 13) - before, 3 * Math.max(0, 8 - filling));
            yard.rack(0, -1, yard.cask(0, 7));
        }
        CaskYard seventh = Yards.casks(1, 1000, 8);
        for (int filling = 1; filling <= 6; filling++) {
            seventh.fill(0, 0, 1);
            seventh.rack(0, -1, 1);
        }
        seventh.fill(0, 0, 199);
        seventh.pass(1);
        Check.due("one grain", seventh.cask(0, 13), 1);
        CaskYard little = Yards.casks(1, 1000, 8);
        little.fill(0, 0, 99);
        little.pass(1);
        Check.due("less than 100 cups take no oak", little.cask(0, 13), 0);
    }

    private static void swelling() {
        CaskYard yard = Yards.casks(3, 1001, 8);
        yard.fill(0, 0, 501);
        yard.fill(1, 0, 500);
        yard.pass(1);
        Check.due("half of its room", yard.cask(0, 4), 5);
        Check.due("less than half of its room", yard.cask(1, 4), 0);
        Check.due("empty", yard.cask(2, 4), 0);
        yard.pass(1);
        Check.due("3 less", yard.cask(0, 4), 2);
        yard.pass(1);
        Check.due("at least 0", yard.cask(0, 4), 0);
        yard.fill(2, 0, 1001);
        yard.pass(5);
        Check.due("at most 20", yard.cask(2, 4), 20);
        yard.rack(2, -1, yard.cask(2, 7));
        yard.pass(1);
        Check.due("3 less, empty", yard.cask(2, 4), 17);
        CaskYard even = Yards.casks(1, 1000, 8);
        even.fill(0, 0, 500);
        even.pass(1);
        Check.due("just half of its room", even.cask(0, 4), 5);
    }

    private static void loss() {
        CaskYard yard = Yards.casks(1, 60000, 2);
        yard.setWarmth(9);
        yard.fill(0, 0, 1);
        yard.fill(0, 1, 999);
        yard.fill(0, 2, 20000);
        // leak 30 - 12, swelling 0, with 3 and 9: 30 thousandths
        Check.due("lost", yard.pass(1), 1 + 29 + 600);
        Check.due("liquid 0", yard.cask(0, 8), 0);
        Check.due("liquid 1", yard.cask(0, 9), 970);
        Check.due("liquid 2", yard.cask(0, 10), 19400);
        Check.due("lost in all", yard.count(8), 630);
        yard.setWarmth(0);
        Check.due("less in the cold", yard.pass(1), 20 + 407);
        Check.due("lost in all", yard.count(8), 630 + 427);
        CaskYard tight = Yards.casks(1, 1000, 8);
        tight.setWarmth(0);
        tight.fill(0, 0, 600);
        Check.due("3 thousandths, but at least 1", tight.pass(1), 1);
        tight.fill(0, 1, 401);
        Check.due("1 of each", tight.pass(1), 2);
    }

    private static void lossOfAll() {
        CaskYard yard = Yards.casks(2, 60000, 2);
        Yards.crack(yard, 0);
        yard.fill(0, 1, 40000);
        yard.fill(0, 2, 20000);
        Check.due("at most all of it", yard.pass(1), 60000);
        Check.due("empty", yard.cask(0, 7), 0);
        Check.due("grains are not lost", yard.cask(0, 13), 4200);
        Check.due("fillings", yard.cask(0, 5), 1);
        Check.due("air months", yard.cask(0, 6), 0);
        Check.due("nothing more", yard.pass(1), 0);
        yard.fill(0, 0, 100);
        Check.due("one filling more", yard.cask(0, 5), 2);
        Check.due("grains are there still", yard.cask(0, 13), 4200);
    }

    private static void air() {
        CaskYard yard = Yards.casks(2, 1000, 2);
        yard.fill(0, 0, 300);
        yard.fill(0, 3, 300);
        for (int m = 1; m <= 5; m++) {
            yard.pass(1);
            Check.due("air months", yard.cask(0, 6), m);
            Check.due("no vinegar", yard.cask(0, 12), 0);
        }
        int held = yard.cask(0, 7);
        Check.due("lost", yard.pass(1), held - yard.cask(0, 7));
        Check.due("with 6 it has none", yard.cask(0, 6), 0);
        Check.due("all is vinegar", yard.cask(0, 12), yard.cask(0, 7));
        Check.due("nothing else", yard.cask(0, 8) + yard.cask(0, 11), 0);
        Check.due("vinegar of all", yard.count(7), yard.cask(0, 12));
        yard.fill(0, 1, 10);
        yard.pass(6);
        Check.due("vinegar again", yard.cask(0, 12), yard.cask(0, 7));
    }

    private static void airEdge() {
        CaskYard yard = Yards.casks(2, 100, 8);
        yard.fill(0, 0, 81);
        yard.fill(1, 0, 80);
        yard.pass(1);
        Check.due("held", yard.cask(0, 7), 80);
        Check.due("four fifths of its room", yard.cask(0, 6), 0);
        Check.due("less than four fifths", yard.cask(1, 6), 1);
        yard.pass(1);
        Check.due("less by what was lost", yard.cask(0, 6), 1);
    }

    private static void airEnds() {
        CaskYard yard = Yards.casks(2, 100, 8);
        yard.fill(0, 0, 50);
        yard.fill(1, 0, 50);
        yard.pass(5);
        yard.fill(0, 0, 55);
        yard.rack(1, -1, yard.cask(1, 7));
        Check.due("filling alone ends no air month", yard.cask(0, 6), 5);
        Check.due("racking alone ends no air month", yard.cask(1, 6), 5);
        yard.pass(1);
        Check.due("full again it has none", yard.cask(0, 6), 0);
        Check.due("empty it has none", yard.cask(1, 6), 0);
        Check.due("no vinegar", yard.count(7), 0);
    }

    private static void airOfOneCup() {
        CaskYard yard = Yards.casks(1, 100, 8);
        yard.fill(0, 0, 2);
        yard.pass(1);
        Check.due("one cup is left", yard.cask(0, 7), 1);
        Check.due("it has an air month", yard.cask(0, 6), 1);
        yard.pass(1);
        Check.due("nothing is left", yard.cask(0, 7), 0);
        Check.due("no air month", yard.cask(0, 6), 0);
    }

    private static void loosening() {
        CaskYard yard = Yards.casks(2, 1000, 3);
        yard.breakUp(1);
        yard.drive(0, 1, 2);
        yard.pass(11);
        Check.due("eleven months", yard.cask(0, 3), 11);
        yard.pass(1);
        Check.due("the twelfth", yard.cask(0, 3), 8);
        yard.pass(11);
        Check.due("eleven more", yard.cask(0, 3), 8);
        yard.pass(1);
        Check.due("the twenty-fourth", yard.cask(0, 3), 5);
        yard.pass(12);
        Check.due("two at 0, one at 2", yard.cask(0, 3), 2);
        yard.pass(12);
        Check.due("not less than 0", yard.cask(0, 3), 1);
        Check.due("one of 1 is driven to 4", yard.drive(0, 1, 3), 4);
        Check.due("one of 0 is driven to 1", yard.drive(0, 0, 1), 1);
        yard.pass(60);
        Check.due("all loose", yard.cask(0, 3), 0);
        Check.due("leak", yard.cask(0, 14), 30);
        CaskYard late = Yards.casks(1, 1000, 2);
        late.fill(0, 0, 1000);
        late.pass(11);
        int held = late.cask(0, 7);
        Check.due("the hoops loosen after the loss", late.pass(1), held * 5 / 1000);
        Check.due("leak then", late.cask(0, 14), 2);
    }

    private static void passWrong() {
        CaskYard yard = Yards.casks(1, 1000, 2);
        int[] wrong = {0, -1, 61, Integer.MIN_VALUE, Integer.MAX_VALUE};
        for (int months : wrong) {
            Check.refused(yard, "pass(" + months + ")", Check.ARGUMENT, () -> yard.pass(months));
        }
        for (int n = 0; n < 19; n++) {
            yard.pass(60);
        }
        yard.pass(59);
        Check.due("month", yard.count(0), 1199);
        Check.refused(yard, "month 1201", Check.STATE, () -> yard.pass(2));
        Check.refused(yard, "month 1259", Check.STATE, () -> yard.pass(60));
        Check.refused(yard, "foresee month 1201", Check.STATE, () -> yard.foresee(0, 2, 0));
        Check.due("foresee month 1200", yard.foresee(0, 1, 0), 0);
        yard.pass(1);
        Check.due("month", yard.count(0), 1200);
        Check.refused(yard, "month 1201", Check.STATE, () -> yard.pass(1));
        Check.refused(yard, "61 months from 1200", Check.ARGUMENT, () -> yard.pass(61));
        Check.refused(yard, "foresee 61 months from 1200", Check.ARGUMENT, () -> yard.foresee(0, 61, 0));
        Check.refused(yard, "foresee of no cask from 1200", Check.INDEX, () -> yard.foresee(1, 1, 0));
    }

    private static void count() {
        CaskYard yard = Yards.casks(3, 1000, 2);
        yard.addStave(50, 5);
        yard.addSort(400, 500, 2);
        yard.fill(0, 0, 1000);
        yard.fill(1, 1, 300);
        yard.breakUp(2);
        yard.setWarmth(4);
        yard.pass(7);
        int held = yard.cask(0, 7) + yard.cask(1, 7);
        int[] due = {7, 10, 3, 2, 3, 2, held, yard.cask(1, 12), 1300 - held, 4};
        for (int what = 0; what < 10; what++) {
            Check.due("count(" + what + ")", yard.count(what), due[what]);
        }
        Check.due("vinegar", yard.count(7) > 0 ? 1 : 0, 1);
        for (int what : new int[] {-1, 10, Integer.MIN_VALUE, Integer.MAX_VALUE}) {
            Check.refused(yard, "count(" + what + ")", Check.INDEX, () -> yard.count(what));
        }
    }

    private static void foresee() {
        for (int months : new int[] {1, 5, 6, 12, 13, 30, 60}) {
            CaskYard yard = Yards.casks(3, 1000, 3);
            yard.fill(0, 0, 1000);
            yard.fill(1, 2, 400);
            yard.fill(1, 3, 111);
            yard.pass(3);
            yard.breakUp(2);
            long before = yard.digest();
            int[][] seen = new int[3][4];
            for (int cask = 0; cask < 3; cask++) {
                for (int what = 0; what < 4; what++) {
                    seen[cask][what] = yard.foresee(cask, months, what);
                }
            }
            Check.due("nothing is changed", yard.digest(), before);
            yard.pass(months);
            int[] tells = {7, 12, 13, 14};
            for (int cask = 0; cask < 3; cask++) {
                for (int what = 0; what < 4; what++) {
                    Check.due("foresee(" + cask + ", " + months + ", " + what + ")", seen[cask][what],
                            yard.cask(cask, tells[what]));
                }
            }
        }
        CaskYard one = Yards.casks(1, 1000, 2);
        one.fill(0, 0, 1000);
        Check.due("held", one.foresee(0, 2, 0), 970);
        Check.due("vinegar", one.foresee(0, 2, 1), 0);
        Check.due("grains", one.foresee(0, 2, 2), 133);
        Check.due("leak", one.foresee(0, 2, 3), 8);
    }

    private static void foreseeLoosening() {
        CaskYard yard = Yards.casks(1, 1000, 2);
        yard.pass(11);
        Check.due("the twelfth month loosens", yard.foresee(0, 1, 3), 30 - 8);
        Check.due("no other one up to the next", yard.foresee(0, 12, 3), 30 - 8);
        Check.due("the twenty-fourth", yard.foresee(0, 13, 3), 30 - 4);
        yard.pass(1);
        Check.due("not the thirteenth", yard.foresee(0, 1, 3), 30 - 8);
    }

    private static void foreseeFlaws() {
        CaskYard yard = Yards.casks(2, 1000, 2);
        yard.drive(0, 0, 6);
        yard.drive(0, 0, 1);
        yard.fill(0, 0, 1000);
        // leak 30 + 20 - 24 - 5 = 21, with 3 and the warmth 26 thousandths
        Check.due("held", yard.foresee(0, 1, 0), 974);
        Check.due("leak", yard.foresee(0, 1, 3), 21);
        Check.due("leak of the other one", yard.foresee(1, 1, 3), 18);
        yard.setWarmth(9);
        Check.due("held, warmer", yard.foresee(0, 1, 0), 967);
    }

    private static void foreseeWrong() {
        CaskYard yard = Yards.casks(2, 1000, 2);
        yard.breakUp(1);
        int[][] index = {{-1, 1, 0}, {2, 1, 0}, {12, 1, 0}, {0, 1, -1}, {0, 1, 4}, {2, 0, 0}, {0, 0, 4},
            {Integer.MIN_VALUE, 1, 0}, {Integer.MAX_VALUE, 1, 0}, {0, 1, Integer.MIN_VALUE}, {0, 1, Integer.MAX_VALUE}};
        for (int[] w : index) {
            Check.refused(yard, "foresee(" + w[0] + ", " + w[1] + ", " + w[2] + ")", Check.INDEX,
                    () -> yard.foresee(w[0], w[1], w[2]));
        }
        for (int months : new int[] {0, -1, 61, Integer.MIN_VALUE, Integer.MAX_VALUE}) {
            Check.refused(yard, "foresee of " + months, Check.ARGUMENT, () -> yard.foresee(0, months, 0));
            Check.refused(yard, "foresee broken of " + months, Check.ARGUMENT, () -> yard.foresee(1, months, 0));
        }
        for (int what = 0; what < 4; what++) {
            Check.due("broken up", yard.foresee(1, 60, what), 0);
        }
    }

    private static void blends(String text, CaskYard yard, int target, int... due) {
        for (int what = 0; what < 4; what++) {
            Check.due(text + ": blend(" + target + ", " + what + ")", yard.blend(target, what), due[what]);
        }
    }

    /** Cask 0 tastes 71 of oak, cask 1 61 and cask 2 71 like the first one. */
    private static CaskYard tasting() {
        CaskYard yard = Yards.casks(3, 1000, 2);
        yard.fill(1, 0, 10);
        yard.rack(1, -1, 10);
        for (int c = 0; c < 3; c++) {
            yard.fill(c, c, 1000);
        }
        yard.pass(1);
        return yard;
    }

    private static void blend() {
        CaskYard yard = tasting();
        yard.rack(2, -1, 982);
        blends("in the middle", yard, 66, 0, 1, 5, 66);
        blends("far less", yard, 0, 0, 1, 1, 62);
        blends("far more", yard, 1000000, 0, 1, 9, 70);
        blends("near a", yard, 69, 0, 1, 8, 69);
        blends("just", yard, 62, 0, 1, 1, 62);
        blends("just", yard, 70, 0, 1, 9, 70);
    }

    private static void blendTies() {
        CaskYard yard = tasting();
        blends("least a and b, then tenths", yard, 71, 0, 2, 1, 71);
        blends("least b", yard, 66, 0, 1, 5, 66);
        blends("far less", yard, 0, 0, 1, 1, 62);
        yard.breakUp(0);
        blends("a smaller than b", yard, 66, 1, 2, 5, 66);
        CaskYard alike = Yards.casks(3, 1000, 2);
        for (int c = 0; c < 3; c++) {
            alike.fill(c, 0, 1000);
        }
        blends("no taste", alike, 500, 0, 1, 1, 0);
        CaskYard coarse = Yards.casks(2, 1000, 2);
        coarse.fill(0, 0, 1000);
        coarse.pass(1);
        coarse.rack(0, -1, 200);
        coarse.rack(0, 1, 391);
        Check.due("grains of a", coarse.cask(0, 13), 28);
        Check.due("grains of b", coarse.cask(1, 13), 28);
        blends("both 71: all parts alike", coarse, 71, 0, 1, 1, 71);
    }

    private static void blendCasks() {
        CaskYard yard = tasting();
        yard.rack(0, -1, 982);
        blends("an empty one is none", yard, 0, 1, 2, 9, 62);
        yard.rack(2, 0, 300);
        yard.pass(5);
        Check.due("air months", yard.cask(0, 6), 5);
        yard.pass(1);
        Check.due("vinegar", yard.cask(0, 12) > 0 ? 1 : 0, 1);
        Check.due("vinegar in the other one, too", yard.cask(2, 12) > 0 ? 1 : 0, 1);
        blends("vinegar is none", yard, 0, -1, -1, -1, -1);
        CaskYard broken = tasting();
        broken.breakUp(1);
        blends("a broken one is none", broken, 0, 0, 2, 1, 71);
        broken.breakUp(2);
        blends("one alone is none", broken, 0, -1, -1, -1, -1);
        CaskYard mixed = Yards.casks(3, 100, 2);
        mixed.fill(0, 0, 50);
        mixed.pass(6);
        mixed.fill(0, 0, 20);
        mixed.fill(1, 0, 20);
        mixed.fill(2, 0, 20);
        blends("some vinegar is none", mixed, 0, 1, 2, 1, 0);
    }

    private static void blendRichest() {
        CaskYard yard = Yards.casks(2, 60000, 2);
        Yards.crack(yard, 0);
        yard.fill(0, 0, 60000);
        yard.pass(1);
        yard.fill(0, 0, 1);
        yard.fill(1, 0, 1);
        blends("a taste is at most 1000000", yard, 1000000, 0, 1, 9, 900000);
        blends("a taste is at most 1000000", yard, 400000, 0, 1, 4, 400000);
        blends("a taste is at most 1000000", yard, 449999, 0, 1, 4, 400000);
        blends("of two alike the fewest tenths", yard, 450000, 0, 1, 4, 400000);
        blends("a taste is at most 1000000", yard, 450001, 0, 1, 5, 500000);
    }

    private static void blendExact() {
        CaskYard yard = Yards.casks(2, 60000, 2);
        Yards.crack(yard, 0);
        yard.fill(0, 0, 60000);
        yard.pass(1);
        yard.fill(0, 0, 30000);
        yard.fill(1, 0, 7);
        // 4200 * 1000 / 30000 is 140
        blends("exactly", yard, 0, 0, 1, 1, 14);
        yard.rack(0, 1, 29000);
        // 140 * 1000 / 1000 and 4060 * 1000 / 29007
        blends("both", yard, 140, 0, 1, 1, 139);
        blends("both", yard, 139, 0, 1, 1, 139);
    }

    /** As many staves, sorts and casks as there can be. */
    private static CaskYard filledYard() {
        CaskYard yard = Yards.staves(60);
        for (int sort = 0; sort < 6; sort++) {
            yard.addSort(500 - 20 * sort, 1000, 8);
        }
        for (int c = 0; c < 12; c++) {
            yard.raise(0);
            yard.fill(c, c % 4, 1000);
        }
        return yard;
    }

    private static void fullYard() {
        CaskYard yard = filledYard();
        Check.due("no stave is left", yard.choose(0, 0), -1);
        Check.due("lost", yard.pass(1), 12 * 5);
        Check.due("held", yard.count(6), 12 * 995);
        Check.due("sound", yard.count(5), 12);
        Check.due("in the yard", yard.count(2), 0);
        Check.due("vinegar", yard.count(7), 0);
        Check.dueDouble("taste", yard.taste(), 70.0 / 995);
        blends("the first ones", yard, 70, 0, 1, 1, 70);
        Check.due("spilled", yard.breakUp(11), 995);
        Check.due("the first one is gone", yard.stave(55, 2), -2);
        Check.due("the last one is in the yard", yard.stave(59, 2), -1);
        Check.due("70 is dry", yard.choose(5, 0), 56);
        Check.due("70 is dry", yard.choose(5, 3), 59);
        Check.due("no fifth", yard.choose(5, 4), -1);
    }

    private static void fullYardDigest() {
        CaskYard yard = filledYard();
        yard.pass(1);
        int[][] tensions = new int[12][8];
        for (int[] t : tensions) {
            java.util.Arrays.fill(t, 3);
        }
        int[][] sorts = {{500, 1000, 8}, {480, 1000, 8}, {460, 1000, 8}, {440, 1000, 8}, {420, 1000, 8},
            {400, 1000, 8}};
        Check.due("digest", yard.digest(), Yards.digest(yard, sorts, tensions));
    }

    private static void blendWrong() {
        CaskYard yard = tasting();
        for (int target : new int[] {-1, 1000001, Integer.MIN_VALUE, Integer.MAX_VALUE}) {
            Check.refused(yard, "blend(" + target + ", 0)", Check.ARGUMENT, () -> yard.blend(target, 0));
            Check.refused(yard, "blend(" + target + ", 4)", Check.ARGUMENT, () -> yard.blend(target, 4));
        }
        for (int what : new int[] {-1, 4, Integer.MIN_VALUE, Integer.MAX_VALUE}) {
            Check.refused(yard, "blend(0, " + what + ")", Check.INDEX, () -> yard.blend(0, what));
        }
        long before = yard.digest();
        yard.blend(50, 0);
        Check.due("nothing is changed", yard.digest(), before);
    }

    private static void taste() {
        CaskYard yard = Yards.casks(3, 60000, 2);
        Check.dueDouble("nothing held", yard.taste(), 0.0);
        yard.fill(1, 0, 7);
        Check.dueDouble("no grains", yard.taste(), 0.0);
        yard.rack(1, -1, 7);
        Yards.crack(yard, 0);
        yard.fill(0, 0, 60000);
        yard.pass(1);
        Check.dueDouble("grains, but nothing held", yard.taste(), 0.0);
        yard.fill(1, 0, 9);
        Check.dueDouble("all grains, those of an empty one, too", yard.taste(), 4200.0 / 9);
        yard.fill(2, 0, 4);
        Check.dueDouble("all that they hold", yard.taste(), 4200.0 / 13);
        yard.breakUp(0);
        Check.dueDouble("the grains of a broken one are spilled", yard.taste(), 0.0);
    }

    private static void digest() {
        CaskYard yard = new CaskYard();
        int[][] sorts = {{300, 1000, 2}, {301, 60000, 4}};
        for (int s = 0; s < 11; s++) {
            yard.addStave(s < 10 ? 100 : 55, 60 + 3 * s);
        }
        for (int[] sort : sorts) {
            yard.addSort(sort[0], sort[1], sort[2]);
        }
        yard.raise(0);
        yard.raise(0);
        yard.raise(0);
        yard.drive(0, 1, 4);
        yard.fill(0, 3, 999);
        yard.fill(2, 1, 222);
        yard.breakUp(1);
        yard.setWarmth(7);
        Check.due("digest", yard.digest(), Yards.digest(yard, sorts, new int[][] {{3, 7}, {}, {3, 3}}));
        yard.pass(13);
        Check.due("digest", yard.digest(), Yards.digest(yard, sorts, new int[][] {{2, 6}, {}, {2, 2}}));
        Check.due("again", yard.digest(), yard.digest());
    }
}
