/** Promises 11 to 13: fill, rack, setWarmth. */
public final class LiquidTest {
    public static void main(String[] args) {
        fill();
        fillings();
        fillWrong();
        rack();
        rackRest();
        rackGrains();
        rackFillings();
        rackAway();
        rackGreat();
        rackWrong();
        setWarmth();
        Check.end();
    }

    private static void holds(String what, CaskYard yard, int cask, int... due) {
        int all = 0;
        for (int l = 0; l < 5; l++) {
            Check.due(what + ": liquid " + l + " of " + cask, yard.cask(cask, 8 + l), due[l]);
            all += due[l];
        }
        Check.due(what + ": all of " + cask, yard.cask(cask, 7), all);
    }

    private static void fill() {
        CaskYard yard = Yards.casks(2, 60000, 2);
        Check.due("fill", yard.fill(0, 0, 1), 1);
        Check.due("fill", yard.fill(0, 3, 20000), 20001);
        Check.due("fill", yard.fill(0, 0, 39999), 60000);
        holds("full", yard, 0, 40000, 0, 0, 20000, 0);
        Check.due("fill at once", yard.fill(1, 2, 60000), 60000);
        Check.due("what all hold", yard.count(6), 120000);
    }

    private static void fillings() {
        CaskYard yard = Yards.casks(1, 1000, 2);
        yard.fill(0, 0, 10);
        yard.fill(0, 1, 10);
        Check.due("one filling", yard.cask(0, 5), 1);
        yard.rack(0, -1, 19);
        yard.fill(0, 1, 10);
        Check.due("not empty before", yard.cask(0, 5), 1);
        yard.rack(0, -1, 11);
        Check.due("empty", yard.cask(0, 5), 1);
        yard.fill(0, 1, 10);
        Check.due("one filling more", yard.cask(0, 5), 2);
    }

    private static void fillWrong() {
        CaskYard yard = Yards.casks(2, 60000, 2);
        yard.breakUp(1);
        for (int cask : new int[] {-1, 2, 12, Integer.MIN_VALUE, Integer.MAX_VALUE}) {
            Check.refused(yard, "fill of cask " + cask, Check.INDEX, () -> yard.fill(cask, 0, 1));
            Check.refused(yard, "fill of cask " + cask + ", wrong", Check.INDEX, () -> yard.fill(cask, 4, 0));
        }
        for (int liquid : new int[] {-1, 4, 5, Integer.MIN_VALUE, Integer.MAX_VALUE}) {
            Check.refused(yard, "fill of liquid " + liquid, Check.ARGUMENT, () -> yard.fill(0, liquid, 1));
            Check.refused(yard, "fill broken up of " + liquid, Check.ARGUMENT, () -> yard.fill(1, liquid, 1));
        }
        for (int amount : new int[] {0, -1, 60001, Integer.MIN_VALUE, Integer.MAX_VALUE}) {
            Check.refused(yard, "fill with " + amount, Check.ARGUMENT, () -> yard.fill(0, 0, amount));
            Check.refused(yard, "fill broken up with " + amount, Check.ARGUMENT, () -> yard.fill(1, 0, amount));
        }
        Check.refused(yard, "fill broken up", Check.STATE, () -> yard.fill(1, 0, 1));
        CaskYard small = Yards.casks(1, 100, 2);
        Check.refused(small, "more than its room", Check.STATE, () -> small.fill(0, 0, 101));
        small.fill(0, 0, 60);
        Check.refused(small, "more than its room with the rest", Check.STATE, () -> small.fill(0, 1, 41));
        Check.refused(small, "far more than its room", Check.STATE, () -> small.fill(0, 1, 60000));
        Check.due("just its room", small.fill(0, 1, 40), 100);
    }

    private static void rack() {
        CaskYard yard = Yards.casks(2, 1000, 2);
        yard.fill(0, 0, 600);
        yard.fill(0, 2, 300);
        yard.fill(0, 3, 100);
        Check.due("what is left", yard.rack(0, 1, 500), 500);
        holds("the first one", yard, 0, 300, 0, 150, 50, 0);
        holds("the second one", yard, 1, 300, 0, 150, 50, 0);
        Check.due("back again", yard.rack(1, 0, 500), 0);
        holds("the first one", yard, 0, 600, 0, 300, 100, 0);
        holds("the second one", yard, 1, 0, 0, 0, 0, 0);
    }

    private static void rackRest() {
        CaskYard yard = Yards.casks(2, 1000, 2);
        for (int l = 0; l < 4; l++) {
            yard.fill(0, l, 25);
        }
        // 25 * 59 / 100 is 14 of each, 3 more are missing
        yard.rack(0, 1, 59);
        holds("of each in ascending order", yard, 1, 15, 15, 15, 14, 0);
        holds("what is left", yard, 0, 10, 10, 10, 11, 0);
        CaskYard few = Yards.casks(2, 1000, 2);
        few.fill(0, 1, 1);
        few.fill(0, 3, 2);
        few.rack(0, 1, 1);
        holds("liquid 0 has none left", few, 1, 0, 1, 0, 0, 0);
        few.rack(0, 1, 1);
        holds("liquid 1 has none left", few, 1, 0, 1, 0, 1, 0);
        CaskYard sour = Yards.casks(2, 1000, 2);
        sour.fill(0, 0, 100);
        sour.pass(6);
        int vinegar = sour.cask(0, 12);
        sour.fill(0, 0, vinegar);
        sour.rack(0, 1, 3);
        holds("vinegar comes last", sour, 1, 2, 0, 0, 0, 1);
        Check.due("vinegar of all", sour.count(7), vinegar);
    }

    private static void rackGrains() {
        CaskYard yard = Yards.casks(2, 1000, 2);
        yard.fill(0, 0, 1000);
        yard.pass(1);
        Check.due("grains", yard.cask(0, 13), 70);
        Check.due("held", yard.cask(0, 7), 982);
        yard.rack(0, 1, 100);
        Check.due("70 * 100 / 982 went", yard.cask(1, 13), 7);
        Check.due("grains left", yard.cask(0, 13), 63);
        yard.rack(0, -1, 881);
        Check.due("63 * 881 / 882 went", yard.cask(0, 13), 1);
        yard.rack(0, 1, 1);
        Check.due("all went", yard.cask(0, 13), 0);
        Check.due("they came", yard.cask(1, 13), 8);
    }

    private static void rackFillings() {
        CaskYard yard = Yards.casks(3, 1000, 2);
        yard.fill(0, 0, 100);
        yard.rack(0, 1, 10);
        yard.rack(0, 1, 10);
        Check.due("one filling by racking", yard.cask(1, 5), 1);
        yard.rack(1, 2, 20);
        yard.rack(0, 1, 80);
        Check.due("one filling more", yard.cask(1, 5), 2);
        Check.due("racking out is none", yard.cask(0, 5), 1);
        Check.due("another one", yard.cask(2, 5), 1);
    }

    private static void rackAway() {
        CaskYard yard = Yards.casks(1, 1000, 2);
        yard.fill(0, 0, 700);
        yard.fill(0, 1, 300);
        Check.due("pour away", yard.rack(0, -1, 101), 899);
        holds("the rest", yard, 0, 629, 270, 0, 0, 0);
        Check.due("poured away is not lost", yard.count(8), 0);
        Check.due("all", yard.rack(0, -1, 899), 0);
        Check.due("what all hold", yard.count(6), 0);
        yard.fill(0, 2, 1000);
        Check.due("the ground is never full", yard.rack(0, -1, 1000), 0);
        Check.due("it is no cask", yard.count(4), 1);
    }

    private static void rackGreat() {
        CaskYard yard = Yards.casks(2, 60000, 2);
        yard.fill(0, 0, 59999);
        yard.fill(0, 1, 1);
        yard.pass(12);
        int held = yard.cask(0, 7);
        int liquid = yard.cask(0, 8);
        int grains = yard.cask(0, 13);
        int amount = held - 1;
        Check.due("a great amount", yard.rack(0, 1, amount), 1);
        Check.due("it is liquid 0 alone by then", liquid, held);
        holds("it came", yard, 1, amount, 0, 0, 0, 0);
        Check.due("its grains", yard.cask(1, 13), (long) grains * amount / held);
    }

    private static void rackWrong() {
        CaskYard yard = Yards.casks(4, 1000, 2);
        yard.fill(0, 0, 500);
        yard.fill(1, 0, 600);
        yard.breakUp(3);
        int[][] index = {{-1, 0, 1}, {4, 0, 1}, {0, -2, 1}, {0, 4, 1}, {0, 12, 1}, {-1, -1, 1}, {4, 4, 0}, {0, 4, 0},
            {Integer.MIN_VALUE, 0, 1}, {Integer.MAX_VALUE, 0, 1}, {0, Integer.MIN_VALUE, 1}, {0, Integer.MAX_VALUE, 1}};
        int[][] argument = {{0, 0, 1}, {0, 1, 0}, {0, 1, -1}, {0, 1, 60001}, {0, -1, 0}, {0, -1, 60001}, {3, 3, 1},
            {3, 0, 0}, {0, 3, 60001}, {0, 0, 0}, {0, 1, Integer.MIN_VALUE}, {0, 1, Integer.MAX_VALUE}};
        int[][] state = {{3, 0, 1}, {0, 3, 1}, {3, -1, 1}, {0, 2, 501}, {0, -1, 501}, {2, 0, 1}, {2, -1, 1},
            {0, 1, 401}, {0, 1, 60000}};
        refuse(yard, Check.INDEX, index);
        refuse(yard, Check.ARGUMENT, argument);
        refuse(yard, Check.STATE, state);
        Check.due("just its room", yard.rack(0, 1, 400), 100);
        Check.due("just all", yard.rack(0, 2, 100), 0);
    }

    private static void refuse(CaskYard yard, Class<? extends RuntimeException> due, int[][] wrong) {
        for (int[] w : wrong) {
            Check.refused(yard, "rack(" + w[0] + ", " + w[1] + ", " + w[2] + ")", due,
                    () -> yard.rack(w[0], w[1], w[2]));
        }
    }

    private static void setWarmth() {
        CaskYard yard = new CaskYard();
        Check.due("2 at first", yard.setWarmth(9), 2);
        Check.due("9 then", yard.setWarmth(0), 9);
        Check.due("count", yard.count(9), 0);
        Check.due("0 then", yard.setWarmth(5), 0);
        for (int warmth : new int[] {-1, 10, Integer.MIN_VALUE, Integer.MAX_VALUE}) {
            Check.refused(yard, "setWarmth(" + warmth + ")", Check.ARGUMENT, () -> yard.setWarmth(warmth));
        }
        Check.due("5 still", yard.setWarmth(5), 5);
    }
}
