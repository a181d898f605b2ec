import java.io.IOException;
import java.lang.reflect.Method;
import java.lang.reflect.Modifier;

/**
 * The document, gone through from its first line: a test for each sentence that
 * names no edge (those that do have theirs in the EdgesTests, and what the class
 * looks like stands in FaceTest), and at the end a look for words of the
 * document that no test of the project quotes. The answers that are due are
 * worked out by hand from the document.
 */
public final class DocumentTest {
    public static void main(String[] args) throws IOException {
        aYard();
        wholeNumbers();
        cups();
        whereStavesAre();
        flawsOfStavesAndCracks();
        aCaskHas();
        monthOakBeforeLoss();
        monthSwellingBeforeLoss();
        monthLossBeforeAir();
        monthLossBeforeVinegar();
        monthHoopsLast();
        aPartGoesOver();
        yardsOfTheirOwn();
        addingStaves();
        tellingOfStaves();
        addingSorts();
        choosing();
        raising();
        driving();
        mending();
        breakingUp();
        tellingOfCasks();
        filling();
        racking();
        pouringAway();
        warming();
        passing();
        counting();
        foreseeing();
        blending();
        tasting();
        checksum();
        Doc.everyWordIsQuoted();
        Check.end();
    }

    private static void tells(CaskYard yard, int cask, int... due) {
        for (int what = 0; what < 16; what++) {
            Check.due("cask(" + cask + ", " + what + ")", yard.cask(cask, what), due[what]);
        }
    }

    private static void counts(CaskYard yard, int... due) {
        for (int what = 0; what < 10; what++) {
            Check.due("count(" + what + ")", yard.count(what), due[what]);
        }
    }

    private static void staves(CaskYard yard, int what, int... due) {
        for (int s = 0; s < due.length; s++) {
            Check.due("stave(" + s + ", " + what + ")", yard.stave(s, what), due[s]);
        }
    }

    // ---- terms

    private static void aYard() {
        Doc.says(Doc.TERMS, "Staves season; casks are raised of staves whose widths make up their girth, and hooped; "
                + "they swell, leak, loosen and crack; what is in them dries away, takes the taste of oak, and turns "
                + "sour where there is too much air; it is racked from cask to cask, and it is told which staves make "
                + "a cask, what a cask will hold, and which two blend best.");
        CaskYard yard = new CaskYard();
        int[] widths = {110, 90, 100, 100, 100, 100, 50};
        int[] drynesses = {90, 95, 80, 100, 100, 100, 30};
        for (int s = 0; s < widths.length; s++) {
            yard.addStave(widths[s], drynesses[s]);
        }
        yard.addSort(300, 1000, 2);
        for (int index = 0; index < 3; index++) {
            Check.due("which staves make a cask", yard.choose(0, index), index);
        }
        yard.raise(0);
        yard.raise(0);
        staves(yard, 2, 0, 0, 0, 1, 1, 1, -1);
        Check.due("hooped", yard.cask(0, 3), 6);
        yard.fill(0, 2, 700);
        Check.due("what a cask will hold", yard.foresee(0, 1, 0), 688);
        Check.due("leaks: 13, 3 and 2 thousandths", yard.pass(1), 12);
        Check.due("dries away", yard.cask(0, 7), 688);
        Check.due("swells", yard.cask(0, 4), 5);
        Check.due("the taste of oak", yard.cask(0, 13), 49);
        Check.due("seasons", yard.stave(6, 1), 34);
        yard.fill(1, 0, 900);
        int[] blend = {0, 1, 5, 35};
        for (int what = 0; what < 4; what++) {
            Check.due("which two blend best: " + what, yard.blend(35, what), blend[what]);
        }
        yard.pass(5);
        Check.due("not sour", yard.cask(0, 10), 0);
        Check.due("sour", yard.cask(0, 12), yard.cask(0, 7));
        Check.due("without too much air", yard.cask(1, 8), 859);
        yard.rack(0, 1, 50);
        Check.due("racked from cask to cask", yard.cask(1, 12), 50);
        yard.pass(6);
        Check.due("loosens", yard.cask(1, 3), 4);
        Check.due("before the crack", yard.cask(1, 2), 0);
        yard.drive(1, 0, 9);
        Check.due("cracks", yard.cask(1, 2), 1);
    }

    private static void wholeNumbers() {
        Doc.says(Doc.TERMS, "All numbers are whole, and / is cut towards 0.");
        for (Method method : CaskYard.class.getDeclaredMethods()) {
            if (Modifier.isPublic(method.getModifiers())) {
                String name = method.getName();
                Check.dueText("the type of " + name, method.getReturnType().getName(),
                        name.equals("taste") ? "double" : name.equals("digest") ? "long" : "int");
                for (Class<?> parameter : method.getParameterTypes()) {
                    Check.dueText("the type of a number for " + name, parameter.getName(), "int");
                }
            }
        }
        CaskYard yard = Yards.casks(1, 1000, 2);
        yard.fill(0, 0, 399);
        Check.due("399 * 23 / 1000", yard.pass(1), 9);
        Check.due("399 / 100 * 7", yard.cask(0, 13), 21);
    }

    private static void cups() {
        Doc.says(Doc.TERMS, "Amounts are told in cups.");
        CaskYard yard = Yards.casks(1, 137, 2);
        Check.due("as many cups as came in", yard.fill(0, 0, 137), 137);
        Check.due("all that it holds", yard.cask(0, 7), 137);
        Check.due("the liquid", yard.cask(0, 8), 137);
        Check.due("what all hold", yard.count(6), 137);
        Check.due("what is left", yard.rack(0, -1, 36), 101);
        Check.dueText("its room is told in cups, too", Check.answer(() -> yard.fill(0, 0, 37)),
                "throws.IllegalStateException");
    }

    private static void whereStavesAre() {
        Doc.says(Doc.TERMS, "Staves. There are at most 60, numbered from 0 in the order in which they came; each has "
                + "a width, 20 to 120, and a dryness, 0 to 100. It is in the yard, in a cask, or gone.");
        CaskYard yard = Yards.staves(4);
        yard.addSort(300, 100, 2);
        staves(yard, 2, -1, -1, -1, -1);
        yard.raise(0);
        staves(yard, 2, 0, 0, 0, -1);
        yard.mend(0, 3);
        staves(yard, 2, 0, 0, -2, 0);
        yard.breakUp(0);
        staves(yard, 2, -2, -1, -2, -1);
        Check.due("there are four, those that are gone, too", yard.count(1), 4);
    }

    private static void flawsOfStavesAndCracks() {
        Doc.says(Doc.TERMS, "Casks. There are at most 12, numbered likewise. A cask has its staves; flaws: so many of "
                + "them had a dryness of less than 70 when they came into it, and one for each crack;");
        CaskYard yard = new CaskYard();
        yard.addStave(100, 65);
        yard.addStave(100, 75);
        yard.addStave(100, 69);
        yard.addSort(300, 1000, 2);
        yard.raise(0);
        Check.due("two of its staves", yard.cask(0, 2), 2);
        yard.drive(0, 0, 9);
        Check.due("and a crack", yard.cask(0, 2), 3);
        yard.drive(0, 1, 1);
        Check.due("and one more", yard.cask(0, 2), 4);
        yard.pass(60);
        Check.due("in five years all hoops are looser", yard.cask(0, 3), 4);
        Check.due("flaws stay, whatever goes by", yard.cask(0, 2), 4);
    }

    private static void aCaskHas() {
        Doc.says(Doc.TERMS, "hoops, each with a tension, 0 to 9 (3, at first); a swelling, "
                + "0 to 20 (0, at first); a number of fillings; air months; and it holds amounts of five liquids, "
                + "0 to 3 and 4, vinegar, together at most its room, and oak, so many grains.");
        CaskYard yard = Yards.casks(1, 1000, 4);
        tells(yard, 0, 0, 3, 0, 12, 0, 0, 0, 0, 0, 0, 0, 0, 0, 0, 6, 1);
        yard.fill(0, 0, 100);
        yard.fill(0, 1, 200);
        tells(yard, 0, 0, 3, 0, 12, 0, 1, 0, 300, 100, 200, 0, 0, 0, 0, 6, 1);
        yard.pass(2);
        // 11 thousandths: 100, 99, 98 and 200, 198, 196; 3 * 7 and 2 * 7 grains
        tells(yard, 0, 0, 3, 0, 12, 0, 1, 2, 294, 98, 196, 0, 0, 0, 35, 6, 1);
    }

    private static void monthOakBeforeLoss() {
        Doc.says(Doc.TERMS, "A month goes like this: first the staves in the yard season. Then for each sound cask, "
                + "in ascending order:");
        Doc.says(Doc.TERMS, "1. Oak. If it holds something, it gets grains: what it holds / 100, times (8 less its "
                + "fillings), if that is greater than 0.");
        CaskYard yard = Yards.casks(1, 1000, 2);
        yard.fill(0, 0, 100);
        Check.due("less than 100 cups are left", yard.pass(1), 2);
        Check.due("oak of 100 cups", yard.cask(0, 13), 7);
    }

    private static void monthSwellingBeforeLoss() {
        Doc.says(Doc.TERMS, "2. Swelling. If it holds at least half of its room");
        Doc.says(Doc.TERMS, "3. Loss. Its leak is 30");
        CaskYard yard = Yards.casks(2, 1000, 2);
        yard.fill(0, 0, 1000);
        Check.due("it has swollen by 5 when it leaks", yard.pass(1), 18);
        yard.fill(1, 0, 502);
        // 13 thousandths of 982, as the first one has swollen by 10 now, and 18 of 502
        Check.due("half of its room before the loss", yard.pass(1), 12 + 9);
        Check.due("493 are less than half of it", yard.cask(1, 7), 493);
        Check.due("it swelled", yard.cask(1, 4), 5);
    }

    private static void monthLossBeforeAir() {
        Doc.says(Doc.TERMS, "4. Air. If it holds something, and less than four fifths of its room");
        CaskYard yard = Yards.casks(2, 1000, 2);
        yard.fill(0, 0, 800);
        yard.fill(1, 0, 1);
        Check.due("14 of 800, and the only cup", yard.pass(1), 15);
        Check.due("786 are less than four fifths", yard.cask(0, 6), 1);
        Check.due("it holds nothing any more", yard.cask(1, 6), 0);
    }

    private static void monthLossBeforeVinegar() {
        CaskYard yard = Yards.casks(1, 1000, 2);
        for (int liquid = 0; liquid < 4; liquid++) {
            yard.fill(0, liquid, 60);
        }
        Check.due("one cup of each liquid in each month", yard.pass(5), 20);
        Check.due("and in the sixth one, too", yard.pass(1), 4);
        Check.due("vinegar then", yard.cask(0, 12), 216);
        Check.due("23 thousandths of the vinegar", yard.pass(1), 4);
    }

    private static void monthHoopsLast() {
        Doc.says(Doc.TERMS, "5. Each twelfth month (when the month that is now, counted from 1 for the first one, is "
                + "a multiple of 12) each hoop with a tension greater than 0 has 1 less.");
        CaskYard yard = Yards.casks(1, 1000, 2);
        yard.pass(11);
        yard.fill(0, 0, 400);
        Check.due("the hoops are tight when it leaks", yard.pass(1), 9);
        Check.due("and looser behind that", yard.cask(0, 3), 4);
        Check.due("its leak then", yard.cask(0, 14), 22);
    }

    private static void aPartGoesOver() {
        Doc.says(Doc.TERMS, "Racking. Of what a cask holds, a part goes over: for an amount a of all m that it holds, "
                + "of each liquid x * a / m goes (cut), then,");
        CaskYard yard = Yards.casks(2, 1000, 8);
        yard.fill(0, 0, 600);
        yard.fill(0, 1, 300);
        yard.fill(0, 3, 100);
        Check.due("what is left", yard.rack(0, 1, 400), 600);
        tells(yard, 0, 0, 3, 0, 24, 0, 1, 0, 600, 360, 180, 0, 60, 0, 0, 0, 1);
        tells(yard, 1, 0, 3, 0, 24, 0, 1, 0, 400, 240, 120, 0, 40, 0, 0, 0, 1);
    }

    // ---- promises

    private static void yardsOfTheirOwn() {
        Doc.says(1, "`CaskYard()`: Creates a yard without staves, sorts and casks, in the month 0.");
        CaskYard yard = Yards.casks(2, 1000, 2);
        yard.fill(1, 0, 900);
        yard.setWarmth(9);
        yard.pass(13);
        long before = yard.digest();
        CaskYard other = new CaskYard();
        counts(other, 0, 0, 0, 0, 0, 0, 0, 0, 0, 2);
        other.addStave(20, 0);
        other.addSort(1500, 60000, 8);
        other.setWarmth(5);
        Check.due("no yard changes another one", yard.digest(), before);
        other.pass(60);
        Check.due("nor do its months", yard.digest(), before);
    }

    private static void addingStaves() {
        Doc.says(2, "Adds a stave to the yard. - `width`: its width - `dryness`: its dryness Returns its number.");
        CaskYard yard = new CaskYard();
        Check.due("its number", yard.addStave(40, 60), 0);
        Check.due("its number", yard.addStave(60, 40), 1);
        Check.due("its number", yard.addStave(40, 60), 2);
        staves(yard, 0, 40, 60, 40);
        staves(yard, 1, 60, 40, 60);
        staves(yard, 2, -1, -1, -1);
        counts(yard, 0, 3, 3, 0, 0, 0, 0, 0, 0, 2);
    }

    private static void tellingOfStaves() {
        Doc.says(3, "- `stave`: a stave - `what`: 0 its width, 1 its dryness, 2 the cask in which it is, -1 if it is "
                + "in the yard, -2 if it is gone Returns this.");
        CaskYard yard = new CaskYard();
        int[] widths = {100, 101, 102, 103, 98, 99, 110, 50};
        for (int s = 0; s < widths.length; s++) {
            yard.addStave(widths[s], 80 + s);
        }
        yard.addSort(303, 100, 2);
        yard.addSort(300, 100, 2);
        yard.raise(0);
        yard.raise(1);
        yard.pass(1);
        yard.breakUp(0);
        staves(yard, 0, widths);
        staves(yard, 1, 50, 51, 52, 83, 84, 85, 90, 91);
        staves(yard, 2, -2, -1, -1, 1, 1, 1, -1, -1);
    }

    private static void addingSorts() {
        Doc.says(Doc.TERMS, "Sorts of casks. There are at most 6, numbered likewise; each has a girth, 300 to 1500, "
                + "a room, 100 to 60000 cups, and a number of hoops, 2 to 8.");
        Doc.says(4, "Adds a sort of casks. - `girth`: its girth - `room`: its room - `hoops`: its hoops "
                + "Returns its number.");
        CaskYard yard = Yards.staves(7);
        Check.due("its number", yard.addSort(300, 700, 3), 0);
        Check.due("its number", yard.addSort(400, 500, 5), 1);
        Check.due("sorts", yard.count(3), 2);
        Check.due("a cask of the second sort", yard.raise(1), 0);
        Check.due("a cask of the first sort", yard.raise(0), 1);
        Check.due("staves of a girth of 400", yard.cask(0, 1), 4);
        Check.due("staves of a girth of 300", yard.cask(1, 1), 3);
        Check.due("five hoops", yard.cask(0, 3), 15);
        Check.due("three hoops", yard.cask(1, 3), 9);
        Check.refused(yard, "501 cups in a room of 500", Check.STATE, () -> yard.fill(0, 0, 501));
        Check.due("a room of 500", yard.fill(0, 0, 500), 500);
        Check.refused(yard, "701 cups in a room of 700", Check.STATE, () -> yard.fill(1, 0, 701));
        Check.due("a room of 700", yard.fill(1, 0, 700), 700);
    }

    private static void choosing() {
        Doc.says(5, "Tells which staves would make a cask. - `sort`: its sort - `index`: one of them, in ascending "
                + "order, from 0 Returns this stave; -1 if there are not so many, or no set makes it.");
        CaskYard yard = new CaskYard();
        int[] widths = {60, 120, 100, 80, 120, 120};
        for (int width : widths) {
            yard.addStave(width, 100);
        }
        yard.addSort(300, 100, 2);
        yard.addSort(420, 100, 2);
        yard.addSort(1500, 100, 2);
        int[][] due = {{0, 1, 4, -1, -1}, {0, 1, 4, 5, -1}, {-1, -1, -1, -1, -1}};
        long before = yard.digest();
        for (int sort = 0; sort < 3; sort++) {
            for (int index = 0; index < 5; index++) {
                Check.due("choose(" + sort + ", " + index + ")", yard.choose(sort, index), due[sort][index]);
            }
        }
        Check.due("it is told alone", yard.digest(), before);
    }

    private static void raising() {
        Doc.says(Doc.TERMS, "Raising. Of the staves in the yard with a dryness of at least 60 a set is looked for "
                + "whose widths make up together the girth, or at most 4 more: of all such sets that with the fewest "
                + "staves, of several that with the least sum of widths, of these that whose staves in ascending order "
                + "have the smallest numbers, where they differ first. All these staves are in the cask then.");
        Doc.says(6, "Raises a cask. - `sort`: its sort Returns its number.");
        CaskYard yard = new CaskYard();
        int[] widths = {60, 120, 100, 80, 120, 120};
        for (int width : widths) {
            yard.addStave(width, 100);
        }
        yard.addSort(1500, 100, 2);
        yard.addSort(300, 200, 3);
        Check.due("its number", yard.raise(1), 0);
        staves(yard, 2, 0, 0, -1, -1, 0, -1);
        Check.due("the next number", yard.raise(1), 1);
        staves(yard, 2, 0, 0, 1, 1, 0, 1);
        tells(yard, 0, 1, 3, 0, 9, 0, 0, 0, 0, 0, 0, 0, 0, 0, 0, 12, 1);
        tells(yard, 1, 1, 3, 0, 9, 0, 0, 0, 0, 0, 0, 0, 0, 0, 0, 12, 1);
    }

    private static void driving() {
        Doc.says(7, "Drives a hoop: its tension is more.");
        Doc.says(7, "- `cask`: the cask - `hoop`: the hoop, from 0 - `by`: by how much "
                + "Returns its tension then, at most 9.");
        CaskYard yard = Yards.casks(2, 1000, 3);
        Check.due("3 and 2", yard.drive(1, 2, 2), 5);
        Check.due("3 and 1", yard.drive(1, 0, 1), 4);
        Check.due("5 and 1", yard.drive(1, 2, 1), 6);
        Check.due("together", yard.cask(1, 3), 13);
        Check.due("no crack", yard.cask(1, 2), 0);
        Check.due("the other cask", yard.cask(0, 3), 9);
        Check.due("each of them", yard.digest(),
                Yards.digest(yard, new int[][] {{300, 1000, 3}}, new int[][] {{3, 3, 3}, {4, 3, 6}}));
    }

    private static void mending() {
        Doc.says(8, "Mends a cask: its last stave (that with the greatest number) is gone, and another one comes in "
                + "its place; all its flaws are gone (one is there, if the new one has a dryness of less than 70).");
        Doc.says(8, "- `cask`: the cask - `stave`: the other stave Returns how many flaws it had.");
        CaskYard yard = new CaskYard();
        for (int s = 0; s < 8; s++) {
            yard.addStave(100, s == 4 ? 60 : 80);
        }
        yard.addSort(300, 1000, 2);
        yard.raise(0);
        yard.raise(0);
        yard.drive(1, 0, 9);
        Check.due("its flaws: a wet stave and a crack", yard.mend(1, 7), 2);
        staves(yard, 2, 0, 0, 0, 1, 1, -2, -1, 1);
        tells(yard, 1, 0, 3, 0, 12, 0, 0, 0, 0, 0, 0, 0, 0, 0, 0, 6, 1);
        tells(yard, 0, 0, 3, 0, 6, 0, 0, 0, 0, 0, 0, 0, 0, 0, 0, 18, 1);
    }

    private static void breakingUp() {
        Doc.says(9, "Breaks a cask up. What it holds is spilled; its staves are in the yard again, each with a dryness "
                + "that is 30 less (at least 0), but the first one, with the smallest number, is gone (with its "
                + "dryness less, too).");
        Doc.says(9, "- `cask`: the cask Returns what was spilled.");
        CaskYard yard = Yards.casks(2, 1000, 2);
        yard.fill(0, 0, 300);
        yard.fill(1, 0, 100);
        yard.fill(1, 3, 150);
        Check.due("what was spilled", yard.breakUp(1), 250);
        staves(yard, 1, 100, 100, 100, 70, 70, 70);
        staves(yard, 2, 0, 0, 0, -2, -1, -1);
        counts(yard, 0, 6, 2, 1, 2, 1, 300, 0, 0, 2);
        tells(yard, 1, 0, 0, 0, 0, 0, 0, 0, 0, 0, 0, 0, 0, 0, 0, 0, 0);
    }

    private static void tellingOfCasks() {
        Doc.says(10, "- `cask`: a cask - `what`: 0 its sort, 1 its staves, 2 its flaws, 3 the tensions of its hoops "
                + "together, 4 its swelling, 5 its fillings, 6 its air months, 7 all that it holds, 8 to 12 the "
                + "liquids 0 to 4, 13 its grains, 14 its leak as it would be now, 15 1 if it is sound, else 0 "
                + "(2 to 14: 0 if it is broken up) Returns this.");
        CaskYard yard = new CaskYard();
        yard.addStave(60, 50);
        yard.addStave(100, 66);
        for (int s = 0; s < 3; s++) {
            yard.addStave(100, 90);
        }
        yard.addSort(1500, 60000, 8);
        yard.addSort(1400, 60000, 8);
        yard.addSort(400, 2000, 4);
        yard.raise(2);
        yard.fill(0, 0, 300);
        yard.fill(0, 1, 400);
        yard.fill(0, 3, 500);
        // 16 thousandths: 4, 6 and 8
        Check.due("the first month", yard.pass(1), 18);
        // 11 thousandths: 3, 4 and 5
        Check.due("the second month", yard.pass(1), 12);
        tells(yard, 0, 2, 4, 1, 12, 10, 1, 2, 1170, 293, 390, 0, 487, 0, 161, 6, 1);
        yard.drive(0, 1, 2);
        tells(yard, 0, 2, 4, 1, 14, 10, 1, 2, 1170, 293, 390, 0, 487, 0, 161, 2, 1);
    }

    private static void filling() {
        Doc.says(11, "Fills a cask. - `cask`: the cask - `liquid`: the liquid, 0 to 3 - `amount`: how much "
                + "Returns all that it holds then.");
        CaskYard yard = Yards.casks(2, 1000, 2);
        Check.due("all", yard.fill(1, 0, 10), 10);
        Check.due("all", yard.fill(1, 1, 20), 30);
        Check.due("all", yard.fill(1, 2, 30), 60);
        Check.due("all", yard.fill(1, 3, 40), 100);
        Check.due("all", yard.fill(1, 1, 500), 600);
        tells(yard, 1, 0, 3, 0, 6, 0, 1, 0, 600, 10, 520, 30, 40, 0, 0, 18, 1);
        tells(yard, 0, 0, 3, 0, 6, 0, 0, 0, 0, 0, 0, 0, 0, 0, 0, 18, 1);
    }

    private static void racking() {
        Doc.says(12, "Racks from a cask to another one, or pours away. - `from`: the cask - `to`: the other cask; -1 "
                + "to pour away - `amount`: how much Returns what is left in the first one.");
        CaskYard yard = Yards.casks(3, 1000, 8);
        yard.fill(2, 2, 500);
        Check.due("what is left", yard.rack(2, 0, 120), 380);
        tells(yard, 0, 0, 3, 0, 24, 0, 1, 0, 120, 0, 0, 120, 0, 0, 0, 0, 1);
        tells(yard, 1, 0, 3, 0, 24, 0, 0, 0, 0, 0, 0, 0, 0, 0, 0, 0, 1);
        tells(yard, 2, 0, 3, 0, 24, 0, 1, 0, 380, 0, 0, 380, 0, 0, 0, 0, 1);
    }

    private static void pouringAway() {
        CaskYard yard = Yards.casks(2, 1000, 8);
        yard.fill(0, 2, 500);
        yard.fill(1, 2, 50);
        Check.due("what is left", yard.rack(0, -1, 120), 380);
        Check.due("it is in no cask", yard.count(6), 430);
        Check.due("it is not in the other one", yard.cask(1, 7), 50);
        Check.due("it was not lost in a month", yard.count(8), 0);
    }

    private static void warming() {
        Doc.says(13, "Sets the warmth of the house. - `warmth`: the warmth Returns the warmth before.");
        CaskYard yard = Yards.casks(1, 1000, 8);
        yard.fill(0, 0, 1000);
        Check.due("the warmth before", yard.setWarmth(7), 2);
        Check.due("3 and the warmth", yard.pass(1), 10);
        Check.due("the warmth before", yard.setWarmth(0), 7);
        Check.due("3 thousandths of 990", yard.pass(1), 2);
        Check.due("the warmth before", yard.setWarmth(0), 0);
        Check.due("the warmth", yard.count(9), 0);
    }

    private static void passing() {
        Doc.says(14, "Lets months go by. - `months`: how many Returns how much was lost in them in all casks.");
        CaskYard yard = Yards.casks(2, 1000, 8);
        yard.fill(0, 0, 1000);
        yard.fill(1, 0, 500);
        Check.due("5 and 2", yard.pass(1), 7);
        Check.due("the month", yard.count(0), 1);
        // 995: 4, 4, 4, 4; 498: 2, 2, 2, 2
        Check.due("what was lost", yard.pass(4), 24);
        Check.due("the month", yard.count(0), 5);
        Check.due("in all months", yard.count(8), 31);
    }

    private static void counting() {
        Doc.says(15, "- `what`: 0 the month, 1 staves, 2 staves in the yard, 3 sorts, 4 casks (those that are broken "
                + "up, too), 5 sound casks, 6 what all hold, 7 the vinegar of all, 8 what was lost in all months, "
                + "9 the warmth Returns this.");
        CaskYard yard = Yards.staves(10);
        yard.addSort(300, 1000, 2);
        yard.addSort(400, 500, 2);
        yard.raise(0);
        yard.raise(0);
        yard.raise(0);
        yard.breakUp(1);
        yard.fill(0, 0, 400);
        // 9 and five times 8
        Check.due("what was lost", yard.pass(6), 49);
        yard.fill(2, 1, 100);
        yard.setWarmth(5);
        counts(yard, 6, 10, 3, 2, 3, 2, 451, 351, 49, 5);
    }

    private static void foreseeing() {
        Doc.says(16, "- `cask`: a cask - `months`: how many, 1 to 60 - `what`: 0 all that it will hold, 1 its vinegar, "
                + "2 its grains, 3 its leak then Returns this, if so many months went by from now on "
                + "(nothing is changed).");
        CaskYard yard = Yards.casks(2, 1000, 2);
        yard.fill(0, 0, 1000);
        yard.fill(1, 1, 400);
        long before = yard.digest();
        int[][] due = {{0, 1, 982, 0, 70, 13}, {1, 1, 391, 0, 28, 18}, {1, 5, 359, 0, 112, 18},
            {1, 6, 351, 351, 133, 18}, {1, 12, 308, 308, 259, 22}};
        for (int[] row : due) {
            for (int what = 0; what < 4; what++) {
                Check.due("foresee(" + row[0] + ", " + row[1] + ", " + what + ")",
                        yard.foresee(row[0], row[1], what), row[2 + what]);
            }
        }
        Check.due("nothing is changed", yard.digest(), before);
    }

    private static void blending() {
        Doc.says(17, "Looks how a taste of oak had best be blended: of two sound casks a and b, a less than b, that "
                + "hold something, and no vinegar, a part of 1 to 9 tenths of a, the rest of b: the taste of a cask is "
                + "its grains * 1000 / all that it holds, but at most 1000000; that of a blend (tenths * the taste of "
                + "a, and the others * that of b) / 10. Best is what differs least from the target, without its sign; "
                + "of several that with the smallest a, of these the smallest b, of these the fewest tenths.");
        Doc.says(17, "- `target`: the target - `what`: 0 the cask a, 1 the cask b, 2 the tenths of a, 3 the taste of "
                + "the blend Returns this; -1 if there are no two such casks.");
        CaskYard yard = Yards.casks(3, 1000, 2);
        yard.fill(1, 0, 1000);
        yard.pass(1);
        yard.fill(2, 1, 500);
        // the tastes are 70 * 1000 / 982 = 71, and 0
        int[][] due = {{0, 1, 2, 1, 7}, {20, 1, 2, 3, 21}, {60, 1, 2, 9, 63}, {1000000, 1, 2, 9, 63}};
        for (int[] row : due) {
            for (int what = 0; what < 4; what++) {
                Check.due("blend(" + row[0] + ", " + what + ")", yard.blend(row[0], what), row[1 + what]);
            }
        }
    }

    private static void tasting() {
        Doc.says(18, "`double taste()`: Returns all grains of all casks, divided by all that they hold; 0 if they hold "
                + "nothing.");
        CaskYard yard = Yards.casks(3, 1000, 8);
        Check.dueDouble("they hold nothing", yard.taste(), 0);
        yard.fill(0, 0, 1000);
        yard.fill(2, 1, 200);
        Check.dueDouble("no grains", yard.taste(), 0);
        yard.pass(1);
        Check.dueDouble("70 and 14 grains in 995 and 199 cups", yard.taste(), 84.0 / 1194);
    }

    private static void checksum() {
        Doc.says(19, "`long digest()`: Computes a checksum. A number d starts with 487; for each of the following "
                + "numbers x, d becomes d * 31 + x, which wraps around as a 64-bit integer: what count() tells, in its "
                + "order; for each stave what stave() tells; for each sort its girth, its room and its hoops; for each "
                + "cask what cask() tells, and the tension of each of its hoops (all in their order). Returns d.");
        CaskYard yard = new CaskYard();
        Check.due("487 * 31 ** 10 + 2", yard.digest(), 399158975759650089L);
        for (int s = 0; s < 4; s++) {
            yard.addStave(100 + s, 90);
        }
        yard.addSort(300, 1000, 2);
        yard.raise(0);
        yard.drive(0, 1, 1);
        yard.fill(0, 3, 77);
        int[] following = {
            0, 4, 1, 1, 1, 1, 77, 0, 0, 2,
            100, 90, 0, 101, 90, 0, 102, 90, 0, 103, 90, -1,
            300, 1000, 2,
            0, 3, 0, 7, 0, 1, 0, 77, 0, 0, 0, 77, 0, 0, 16, 1,
            3, 4
        };
        long d = 487;
        for (int x : following) {
            d = d * 31 + x;
        }
        Check.due("of all numbers", yard.digest(), d);
    }
}
