/** Yards that several tests start from, and a digest told from the face alone. */
final class Yards {
    private Yards() {
    }

    /** A yard with so many dry staves of a width of 100. */
    static CaskYard staves(int number) {
        CaskYard yard = new CaskYard();
        for (int s = 0; s < number; s++) {
            yard.addStave(100, 100);
        }
        return yard;
    }

    /** A yard with so many casks of three staves each, without flaws. */
    static CaskYard casks(int number, int room, int hoops) {
        CaskYard yard = staves(3 * number);
        yard.addSort(300, room, hoops);
        for (int c = 0; c < number; c++) {
            yard.raise(0);
        }
        return yard;
    }

    /** Drives the first hoop so often that the cask leaks all that it holds in a month. */
    static void crack(CaskYard yard, int cask) {
        yard.drive(cask, 0, 9);
        yard.drive(cask, 1, 9);
        for (int n = 0; n < 110; n++) {
            yard.drive(cask, 0, 9);
        }
    }

    static long digest(CaskYard yard, int[][] sorts, int[][] tensions) {
        long d = 487;
        for (int what = 0; what < 10; what++) {
            d = d * 31 + yard.count(what);
        }
        int staves = yard.count(1);
        for (int s = 0; s < staves; s++) {
            for (int what = 0; what < 3; what++) {
                d = d * 31 + yard.stave(s, what);
            }
        }
        for (int[] sort : sorts) {
            for (int x : sort) {
                d = d * 31 + x;
            }
        }
        int casks = yard.count(4);
        for (int c = 0; c < casks; c++) {
            for (int what = 0; what < 16; what++) {
                d = d * 31 + yard.cask(c, what);
            }
            for (int x : tensions[c]) {
                d = d * 31 + x;
            }
        }
        return d;
    }
}
