/** The edges that the document names for staves, sorts and raising: the terms, and promises 1 to 5. */
public final class StaveEdgesTest {
    public static void main(String[] args) {
        emptyYard();
        firstMonth();
        mostStaves();
        leastAndMostWidth();
        leastAndMostDryness();
        placesOfAStave();
        seasoningUpTo100();
        seasoningOfTheYardAlone();
        rowOfStaves();
        tellsOfAStave();
        mostSorts();
        leastAndMostGirth();
        leastAndMostRoom();
        leastAndMostHoops();
        driestEnough();
        inTheYardAlone();
        girthOrFourMore();
        greatestGirthAndFourMore();
        fewestStaves();
        leastSum();
        smallestNumbersWhereTheyDifferFirst();
        notSoMany();
        noSet();
        allSixtyStaves();
        rowOfSorts();
        indexOfAChoice();
        allAreInTheCask();
        Doc.refusalsAreQuoted(1, 5);
        Check.end();
    }

    private static void emptyYard() {
        Doc.says(1, "Creates a yard without staves, sorts and casks");
        for (int what : new int[] {1, 2, 3, 4, 5, 6, 7, 8}) {
            Check.due("count(" + what + ")", new CaskYard().count(what), 0);
        }
        CaskYard yard = new CaskYard();
        Check.refused(yard, "the first stave", Check.INDEX, () -> yard.stave(0, 0));
        Check.refused(yard, "the first sort, chosen", Check.INDEX, () -> yard.choose(0, 0));
        Check.refused(yard, "the first sort, raised", Check.INDEX, () -> yard.raise(0));
        Check.refused(yard, "the first cask", Check.INDEX, () -> yard.cask(0, 0));
        Check.refused(yard, "the first cask, driven", Check.INDEX, () -> yard.drive(0, 0, 1));
        Check.refused(yard, "the first cask, mended", Check.INDEX, () -> yard.mend(0, 0));
        Check.refused(yard, "the first cask, broken up", Check.INDEX, () -> yard.breakUp(0));
        Check.refused(yard, "the first cask, filled", Check.INDEX, () -> yard.fill(0, 0, 1));
        Check.refused(yard, "the first cask, racked", Check.INDEX, () -> yard.rack(0, -1, 1));
        Check.refused(yard, "the first cask, foreseen", Check.INDEX, () -> yard.foresee(0, 1, 0));
        Check.due("a month of an empty yard", yard.pass(1), 0);
        Check.due("no blend", yard.blend(0, 3), -1);
        Check.dueDouble("no taste", yard.taste(), 0.0);
    }

    private static void firstMonth() {
        Doc.says(1, "in the month 0");
        Doc.says(Doc.TERMS, "Time is told in months, from 0.");
        CaskYard yard = new CaskYard();
        Check.due("the first month", yard.count(0), 0);
        yard.addStave(100, 100);
        Check.due("it goes by in pass alone", yard.count(0), 0);
        Check.due("two yards are two", new CaskYard().count(1), 0);
    }

    private static void mostStaves() {
        Doc.says(Doc.TERMS, "There are at most 60, numbered from 0 in the order in which they came");
        Doc.says(2, "there are 60");
        CaskYard yard = new CaskYard();
        for (int s = 0; s < 60; s++) {
            Check.due("the number of a stave", yard.addStave(20 + s, 100 - s), s);
        }
        Check.refused(yard, "the 61st stave", Check.STATE, () -> yard.addStave(100, 100));
        for (int s = 0; s < 60; s++) {
            Check.due("the width of " + s, yard.stave(s, 0), 20 + s);
            Check.due("the dryness of " + s, yard.stave(s, 1), 100 - s);
        }
        Check.due("60 staves", yard.count(1), 60);
        CaskYard gone = Yards.staves(60);
        gone.addSort(300, 100, 2);
        gone.raise(0);
        gone.breakUp(0);
        Check.refused(gone, "the 61st stave, one being gone", Check.STATE, () -> gone.addStave(100, 100));
        Check.due("those gone are counted", gone.count(1), 60);
        Check.due("they are not in the yard", gone.count(2), 59);
    }

    private static void leastAndMostWidth() {
        Doc.says(Doc.TERMS, "a width, 20 to 120");
        Doc.says(2, "width is not 20 to 120");
        CaskYard yard = new CaskYard();
        for (int width : new int[] {19, 0, -1, -20, Integer.MIN_VALUE, 121, 65556, Integer.MAX_VALUE}) {
            Check.refused(yard, "width " + width, Check.ARGUMENT, () -> yard.addStave(width, 50));
        }
        int number = 0;
        for (int width : new int[] {20, 21, 119, 120}) {
            Check.due("a refused stave takes no number", yard.addStave(width, 50), number);
            Check.due("width", yard.stave(number, 0), width);
            number++;
        }
    }

    private static void leastAndMostDryness() {
        Doc.says(Doc.TERMS, "a dryness, 0 to 100");
        Doc.says(2, "dryness is not 0 to 100");
        CaskYard yard = new CaskYard();
        for (int dryness : new int[] {-1, Integer.MIN_VALUE, 101, 65536, Integer.MAX_VALUE}) {
            Check.refused(yard, "dryness " + dryness, Check.ARGUMENT, () -> yard.addStave(50, dryness));
        }
        int number = 0;
        for (int dryness : new int[] {0, 1, 99, 100}) {
            Check.due("a refused stave takes no number", yard.addStave(50, dryness), number);
            Check.due("dryness", yard.stave(number, 1), dryness);
            number++;
        }
    }

    private static void placesOfAStave() {
        Doc.says(Doc.TERMS, "It is in the yard, in a cask, or gone.");
        Doc.says(3, "2 the cask in which it is, -1 if it is in the yard, -2 if it is gone");
        CaskYard yard = Yards.casks(12, 100, 2);
        yard.addStave(100, 100);
        for (int s = 0; s < 36; s++) {
            Check.due("in a cask", yard.stave(s, 2), s / 3);
        }
        Check.due("in the yard", yard.stave(36, 2), -1);
        yard.breakUp(11);
        Check.due("gone", yard.stave(33, 2), -2);
        Check.due("in the yard again", yard.stave(34, 2), -1);
        Check.due("in the yard again", yard.stave(35, 2), -1);
        yard.breakUp(0);
        Check.due("gone out of the first cask", yard.stave(0, 2), -2);
        Check.due("in the yard again", yard.stave(1, 2), -1);
        yard.pass(60);
        Check.due("gone for ever", yard.stave(0, 2), -2);
    }

    private static void seasoningUpTo100() {
        Doc.says(Doc.TERMS, "In the yard it gets drier by 4 in a month (at most 100).");
        int[] before = {0, 1, 92, 95, 96, 97, 98, 99, 100};
        int[] after = {4, 5, 96, 99, 100, 100, 100, 100, 100};
        CaskYard yard = new CaskYard();
        for (int dryness : before) {
            yard.addStave(50, dryness);
        }
        yard.pass(1);
        for (int s = 0; s < before.length; s++) {
            Check.due("a month after " + before[s], yard.stave(s, 1), after[s]);
        }
        yard.pass(23);
        Check.due("24 months after 0", yard.stave(0, 1), 96);
        yard.pass(1);
        Check.due("25 months after 0", yard.stave(0, 1), 100);
        yard.pass(1);
        Check.due("26 months after 0", yard.stave(0, 1), 100);
    }

    private static void seasoningOfTheYardAlone() {
        CaskYard yard = Yards.casks(2, 100, 2);
        yard.breakUp(1);
        yard.pass(1);
        Check.due("in the yard", yard.stave(4, 1), 74);
        Check.due("gone", yard.stave(3, 1), 70);
        CaskYard wet = new CaskYard();
        for (int s = 0; s < 4; s++) {
            wet.addStave(100, 60);
        }
        wet.addSort(300, 100, 2);
        wet.raise(0);
        wet.pass(1);
        Check.due("in a cask", wet.stave(2, 1), 60);
        Check.due("beside it", wet.stave(3, 1), 64);
    }

    private static void rowOfStaves() {
        Doc.says(3, "there is no such stave");
        CaskYard yard = Yards.staves(2);
        Check.due("the first one", yard.stave(0, 0), 100);
        Check.due("the last one", yard.stave(1, 0), 100);
        for (int stave : new int[] {-1, -2, Integer.MIN_VALUE, 2, 59, 60, Integer.MAX_VALUE}) {
            Check.refused(yard, "stave " + stave, Check.INDEX, () -> yard.stave(stave, 0));
        }
        CaskYard full = Yards.staves(60);
        Check.due("the 60th", full.stave(59, 0), 100);
        Check.refused(full, "no 61st", Check.INDEX, () -> full.stave(60, 0));
    }

    private static void tellsOfAStave() {
        Doc.says(3, "what is not 0 to 2");
        CaskYard yard = new CaskYard();
        yard.addStave(33, 44);
        Check.due("0 its width", yard.stave(0, 0), 33);
        Check.due("1 its dryness", yard.stave(0, 1), 44);
        Check.due("2 its place", yard.stave(0, 2), -1);
        for (int what : new int[] {-1, Integer.MIN_VALUE, 3, Integer.MAX_VALUE}) {
            Check.refused(yard, "what " + what, Check.INDEX, () -> yard.stave(0, what));
        }
    }

    private static void mostSorts() {
        Doc.says(Doc.TERMS, "There are at most 6, numbered likewise");
        Doc.says(4, "there are 6");
        CaskYard yard = Yards.staves(4);
        for (int sort = 0; sort < 6; sort++) {
            Check.due("the number of a sort", yard.addSort(400 - 20 * sort, 100 + sort, 2 + sort), sort);
        }
        Check.refused(yard, "the 7th sort", Check.STATE, () -> yard.addSort(300, 100, 2));
        Check.due("6 sorts", yard.count(3), 6);
        Check.due("the last one is raised", yard.raise(5), 0);
        Check.due("its sort", yard.cask(0, 0), 5);
        Check.due("its hoops", yard.cask(0, 3), 21);
    }

    private static void leastAndMostGirth() {
        Doc.says(Doc.TERMS, "a girth, 300 to 1500");
        Doc.says(4, "girth is not 300 to 1500");
        CaskYard yard = Yards.staves(15);
        for (int girth : new int[] {299, 0, -300, Integer.MIN_VALUE, 1501, 65836, Integer.MAX_VALUE}) {
            Check.refused(yard, "girth " + girth, Check.ARGUMENT, () -> yard.addSort(girth, 100, 2));
        }
        Check.due("a refused sort takes no number", yard.addSort(300, 100, 2), 0);
        Check.due("the greatest girth", yard.addSort(1500, 100, 2), 1);
        Check.due("three staves", yard.choose(0, 2), 2);
        Check.due("no fourth", yard.choose(0, 3), -1);
        Check.due("fifteen staves", yard.choose(1, 14), 14);
        Check.due("no sixteenth", yard.choose(1, 15), -1);
    }

    private static void leastAndMostRoom() {
        Doc.says(Doc.TERMS, "a room, 100 to 60000 cups");
        Doc.says(4, "room is not 100 to 60000");
        CaskYard yard = Yards.staves(6);
        for (int room : new int[] {99, 0, -100, Integer.MIN_VALUE, 60001, 65636, Integer.MAX_VALUE}) {
            Check.refused(yard, "room " + room, Check.ARGUMENT, () -> yard.addSort(300, room, 2));
        }
        Check.due("a refused sort takes no number", yard.addSort(300, 100, 2), 0);
        Check.due("the greatest room", yard.addSort(300, 60000, 2), 1);
        yard.raise(0);
        yard.raise(1);
        Check.refused(yard, "more than the least room", Check.STATE, () -> yard.fill(0, 0, 101));
        Check.due("the least room", yard.fill(0, 0, 100), 100);
        Check.due("the greatest room", yard.fill(1, 0, 60000), 60000);
        Check.refused(yard, "more than the greatest room", Check.STATE, () -> yard.fill(1, 0, 1));
    }

    private static void leastAndMostHoops() {
        Doc.says(Doc.TERMS, "a number of hoops, 2 to 8");
        Doc.says(4, "hoops is not 2 to 8");
        CaskYard yard = Yards.staves(6);
        for (int hoops : new int[] {1, 0, -2, Integer.MIN_VALUE, 9, 65538, Integer.MAX_VALUE}) {
            Check.refused(yard, "hoops " + hoops, Check.ARGUMENT, () -> yard.addSort(300, 100, hoops));
        }
        Check.due("a refused sort takes no number", yard.addSort(300, 100, 2), 0);
        Check.due("the most hoops", yard.addSort(300, 100, 8), 1);
        yard.raise(0);
        yard.raise(1);
        Check.due("2 hoops", yard.cask(0, 3), 6);
        Check.due("8 hoops", yard.cask(1, 3), 24);
    }

    /** A yard with dry staves of these widths and a sort of this girth. */
    private static CaskYard yard(int girth, int... widths) {
        CaskYard yard = new CaskYard();
        for (int width : widths) {
            yard.addStave(width, 100);
        }
        yard.addSort(girth, 1000, 4);
        return yard;
    }

    private static void chosen(String what, CaskYard yard, int... due) {
        for (int index = 0; index < due.length; index++) {
            Check.due(what + ": choose(0, " + index + ")", yard.choose(0, index), due[index]);
        }
        Check.due(what + ": choose behind the last one", yard.choose(0, due.length), -1);
    }

    private static void driestEnough() {
        Doc.says(Doc.TERMS, "Of the staves in the yard with a dryness of at least 60 a set is looked for");
        CaskYard yard = new CaskYard();
        for (int dryness : new int[] {59, 60, 0, 61, 59, 60}) {
            yard.addStave(100, dryness);
        }
        yard.addSort(300, 100, 2);
        chosen("60 and more", yard, 1, 3, 5);
        CaskYard wet = new CaskYard();
        for (int dryness : new int[] {60, 60, 59}) {
            wet.addStave(100, dryness);
        }
        wet.addSort(300, 100, 2);
        chosen("59 is too wet", wet);
        Check.refused(wet, "raise with 59", Check.STATE, () -> wet.raise(0));
        wet.pass(1);
        chosen("63 is not", wet, 0, 1, 2);
    }

    private static void inTheYardAlone() {
        CaskYard yard = Yards.casks(1, 100, 2);
        yard.addStave(100, 100);
        chosen("those in a cask are not taken", yard);
        yard.breakUp(0);
        Check.due("the one that is gone is dry enough", yard.stave(0, 1), 70);
        chosen("the one that is gone is not taken", yard, 1, 2, 3);
        CaskYard few = Yards.casks(1, 100, 2);
        few.breakUp(0);
        chosen("two in the yard are not three", few);
    }

    private static void girthOrFourMore() {
        Doc.says(Doc.TERMS, "whose widths make up together the girth, or at most 4 more");
        chosen("1 less", yard(300, 100, 100, 99));
        chosen("the girth", yard(300, 100, 100, 100), 0, 1, 2);
        chosen("1 more", yard(300, 100, 100, 101), 0, 1, 2);
        chosen("4 more", yard(300, 100, 100, 104), 0, 1, 2);
        chosen("5 more", yard(300, 100, 100, 105));
        chosen("1 less, a girth between", yard(777, 111, 111, 111, 111, 111, 111, 110));
        chosen("4 more, a girth between", yard(777, 111, 111, 111, 111, 111, 111, 115), 0, 1, 2, 3, 4, 5, 6);
        chosen("5 more, a girth between", yard(777, 111, 111, 111, 111, 111, 111, 116));
    }

    private static void greatestGirthAndFourMore() {
        int[] lasts = {59, 60, 61, 63, 64, 65};
        for (int last : lasts) {
            CaskYard yard = new CaskYard();
            for (int s = 0; s < 20; s++) {
                yard.addStave(120, 100);
            }
            yard.addStave(last, 100);
            yard.addSort(1500, 60000, 8);
            boolean fits = last >= 60 && last <= 64;
            Check.due("12 of 120 and one of " + last, yard.choose(0, 12), fits ? 20 : -1);
            Check.due("12 of 120 and one of " + last, yard.choose(0, 0), fits ? 0 : -1);
        }
    }

    private static void fewestStaves() {
        Doc.says(Doc.TERMS, "of all such sets that with the fewest staves");
        chosen("fewer staves of greater numbers", yard(300, 75, 75, 75, 75, 100, 100, 100), 4, 5, 6);
        chosen("fewer staves of a greater sum", yard(300, 75, 75, 75, 75, 100, 100, 104), 4, 5, 6);
        chosen("5 more don't count", yard(300, 75, 75, 75, 75, 100, 100, 105), 0, 1, 2, 3);
    }

    private static void leastSum() {
        Doc.says(Doc.TERMS, "of several that with the least sum of widths");
        chosen("300 ahead of 301", yard(300, 101, 100, 100, 100), 1, 2, 3);
        chosen("303 ahead of 304", yard(300, 104, 100, 100, 103), 1, 2, 3);
        chosen("301 ahead of 304", yard(300, 102, 101, 101, 100, 100), 1, 3, 4);
    }

    private static void smallestNumbersWhereTheyDifferFirst() {
        Doc.says(Doc.TERMS, "whose staves in ascending order have the smallest numbers, where they differ first");
        chosen("the first one differs", yard(300, 80, 100, 100, 100, 110, 110), 0, 4, 5);
        chosen("the second one differs", yard(300, 100, 95, 100, 100, 20, 105), 0, 1, 5);
        chosen("the last one differs", yard(300, 100, 100, 120, 100, 100), 0, 1, 3);
        chosen("all are alike", yard(300, 100, 100, 100, 100, 100, 100), 0, 1, 2);
        chosen("the smallest numbers of a sum of 304", yard(300, 102, 100, 102, 102), 0, 1, 2);
    }

    private static void notSoMany() {
        Doc.says(5, "Returns this stave; -1 if there are not so many, or no set makes it.");
        CaskYard yard = Yards.staves(5);
        yard.addSort(300, 100, 2);
        Check.due("the last one", yard.choose(0, 2), 2);
        Check.due("one behind the last one", yard.choose(0, 3), -1);
        Check.due("the greatest index", yard.choose(0, 59), -1);
    }

    private static void noSet() {
        CaskYard yard = Yards.staves(2);
        yard.addSort(300, 100, 2);
        Check.due("too few staves", yard.choose(0, 0), -1);
        Check.due("too few staves, the greatest index", yard.choose(0, 59), -1);
        CaskYard none = new CaskYard();
        none.addSort(1500, 100, 2);
        Check.due("no staves", none.choose(0, 0), -1);
        CaskYard wide = new CaskYard();
        for (int s = 0; s < 60; s++) {
            wide.addStave(119, 100);
        }
        wide.addSort(300, 100, 2);
        Check.due("two are too few, three too many", wide.choose(0, 0), -1);
    }

    private static void allSixtyStaves() {
        CaskYard yard = new CaskYard();
        for (int s = 0; s < 60; s++) {
            yard.addStave(25, 60);
        }
        yard.addSort(1500, 100, 2);
        for (int s = 0; s < 60; s++) {
            Check.due("all 60 staves", yard.choose(0, s), s);
        }
        yard.raise(0);
        Check.due("60 flaws", yard.cask(0, 2), 60);
        Check.due("60 staves", yard.cask(0, 1), 60);
        Check.due("none in the yard", yard.count(2), 0);
        Check.due("leak", yard.cask(0, 14), 30 + 600 - 12);
        CaskYard narrow = new CaskYard();
        for (int s = 0; s < 60; s++) {
            narrow.addStave(s == 0 ? 24 : 25, 60);
        }
        narrow.addSort(1500, 100, 2);
        Check.due("60 staves and 1 less", narrow.choose(0, 0), -1);
    }

    private static void rowOfSorts() {
        Doc.says(5, "there is no such sort");
        CaskYard yard = Yards.staves(3);
        yard.addSort(400, 100, 2);
        yard.addSort(300, 100, 2);
        Check.due("the first sort", yard.choose(0, 0), -1);
        Check.due("the last sort", yard.choose(1, 0), 0);
        for (int sort : new int[] {-1, Integer.MIN_VALUE, 2, 5, 6, Integer.MAX_VALUE}) {
            Check.refused(yard, "sort " + sort, Check.INDEX, () -> yard.choose(sort, 0));
        }
        for (int sort = 2; sort < 6; sort++) {
            yard.addSort(300, 100, 2);
        }
        Check.due("the 6th", yard.choose(5, 0), 0);
        Check.refused(yard, "no 7th", Check.INDEX, () -> yard.choose(6, 0));
    }

    private static void indexOfAChoice() {
        Doc.says(5, "index is not 0 to 59");
        CaskYard yard = Yards.staves(3);
        yard.addSort(300, 100, 2);
        Check.due("the least index", yard.choose(0, 0), 0);
        Check.due("the greatest index", yard.choose(0, 59), -1);
        for (int index : new int[] {-1, Integer.MIN_VALUE, 60, 61, Integer.MAX_VALUE}) {
            Check.refused(yard, "index " + index, Check.INDEX, () -> yard.choose(0, index));
        }
    }

    private static void allAreInTheCask() {
        Doc.says(Doc.TERMS, "All these staves are in the cask then.");
        CaskYard yard = yard(300, 101, 100, 100, 100, 20);
        int[] before = new int[3];
        for (int index = 0; index < 3; index++) {
            before[index] = yard.choose(0, index);
        }
        Check.due("raise", yard.raise(0), 0);
        for (int s : before) {
            Check.due("chosen, and in the cask", yard.stave(s, 2), 0);
        }
        Check.due("not chosen", yard.stave(0, 2), -1);
        Check.due("not chosen", yard.stave(4, 2), -1);
        Check.due("two are left", yard.count(2), 2);
        Check.due("its staves", yard.cask(0, 1), 3);
    }
}
