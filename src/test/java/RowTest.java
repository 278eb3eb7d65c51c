/** Promises 27 to 30: THE ROWS. */
public final class RowTest {
    private static final Due DUE = new Due("RowTest");
    private static final long NO = PriceBench.NO;

    /** THE ROWS of PriceTest's ways: 4, 1, 12, 3 and 5, 1, 3, 16. */
    private static PriceBench written() {
        PriceBench bench = PriceTest.ways();
        bench.write(0);
        return bench;
    }

    private static void promise27() {
        PriceBench bench = PriceTest.ways();
        DUE.is("27: write()", bench.write(0), 2);
        DUE.is("27: how many", bench.count(3), 2);
        DUE.is("27: no such OFFER", bench.write(2), -2);
        DUE.is("27: no such OFFER", bench.write(-1), -2);
        DUE.is("27: refused ones change nothing", bench.count(3), 2);
        bench.window(0, 1, 9, 2);
        bench.alter(4, 0, 0);
        bench.close();
        DUE.is("27: they stay as they were written", bench.row(1, 3), 16);
        DUE.is("27: of THE WINDOW", bench.write(0), 1);
        DUE.is("27: the second one went", bench.row(1, 3), NO);
        DUE.is("27: no CHOICES", bench.write(1), 0);
        DUE.is("27: no ROWS", bench.count(3), 0);
    }

    private static void promise28() {
        PriceBench bench = written();
        long[][] due = {{4, 1, 12, 3, NO}, {5, 1, 3, 16, NO}, {NO, NO, NO, NO, NO}};
        for (int i = 0; i < 3; i++) {
            for (int what = 0; what < 5; what++) {
                DUE.is("28: row(" + i + ", " + what + ")", bench.row(i, what), due[i][what]);
            }
        }
        DUE.is("28: no such ROW", bench.row(-1, 0), NO);
        DUE.is("28: what", bench.row(0, -1), NO);
    }

    private static void promise29() {
        PriceBench bench = written();
        DUE.is("29: edges", bench.forge(0, 0, -1000000), 1);
        DUE.is("29: edges", bench.forge(1, 3, 1000000), 1);
        DUE.is("29: the number", bench.row(0, 0), -1000000);
        DUE.is("29: the number", bench.row(1, 3), 1000000);
        DUE.is("29: not its neighbour", bench.row(1, 2), 3);
        DUE.is("29: v", bench.forge(0, 0, -1000001), -2);
        DUE.is("29: v", bench.forge(0, 0, 1000001), -2);
        DUE.is("29: no such ROW", bench.forge(2, 0, 0), -2);
        DUE.is("29: no such ROW", bench.forge(-1, 0, 0), -2);
        DUE.is("29: what", bench.forge(0, 4, 0), -2);
        DUE.is("29: what", bench.forge(0, -1, 0), -2);
        DUE.is("29: refused ones change nothing", bench.row(0, 0), -1000000);
        DUE.is("29: an OFFER's BENDS stay", bench.bend(0, 0, 0), 4);
        DUE.is("29: written again", bench.write(0), 2);
        DUE.is("29: written again", bench.row(0, 0), 4);
    }

    /** What check() answers where one ROW has become another one. */
    private static void wrong(String about, int due, int i, int... row) {
        PriceBench bench = written();
        for (int what = 0; what < 4; what++) {
            bench.forge(i, what, row[what]);
        }
        DUE.is("30: " + about, bench.check(0), due);
    }

    private static void promise30() {
        PriceBench bench = written();
        DUE.is("30: none is WRONG", bench.check(0), -1);
        DUE.is("30: no such OFFER", bench.check(2), -2);
        DUE.is("30: no such OFFER", bench.check(-1), -2);
        DUE.is("30: no CHOICES", bench.check(1), 3);
        wrong("below the line 0", 1, 0, 4, 0, 12, 3);
        wrong("below the line below 0", 1, 0, -4, -1, 12, 3);
        wrong("not in lowest terms", 1, 0, 8, 2, 12, 3);
        wrong("not in lowest terms", 9, 1, 10, 2, 3, 16);
        wrong("not in THE WINDOW", 1, 0, -1, 1, 12, 3);
        wrong("at its first PRICE", 1, 0, 0, 1, 12, 3);
        wrong("at its last PRICE", 9, 1, 10, 1, 3, 16);
        wrong("no PRICE, in THE WINDOW", 1, 0, 4001, 1001, 12, 3);
        wrong("1 ahead of 2 to 4", 9, 1, 0, 1, 0, 0);
        wrong("not above the ROW ahead", 10, 1, 4, 1, 12, 3);
        wrong("not above the ROW ahead", 10, 1, 7, 2, 3, 16);
        wrong("1 ahead of 2", 9, 1, 8, 2, 12, 3);
        wrong("1 ahead of 3", 1, 0, 8, 2, 0, 3);
        wrong("1 ahead of 4", 1, 0, 8, 2, 12, 0);
        wrong("1 ahead of 5", 1, 0, 10, 2, 12, 3);
        wrong("1 ahead of 7", 1, 0, 8, 2, 3, 12);
        wrong("2 ahead of 3", 10, 1, 4, 1, 0, 0);
        wrong("2 ahead of 4", 10, 1, 4, 1, 12, 0);
        wrong("2 ahead of 5", 10, 1, 4, 1, 12, 16);
        wrong("2 ahead of 7", 10, 1, 4, 1, 3, 12);
        wrong("below the ROW ahead by little", 10, 1, 3999, 1000, 3, 16);
        wrong("above the ROW ahead by little, so 5", 13, 1, 4001, 1000, 3, 16);
        wrong("BELOW is no CHOICE", 3, 0, 4, 1, 5, 3);
        wrong("3 ahead of 4", 11, 1, 5, 1, -1, 99999);
        wrong("ABOVE is no CHOICE", 12, 1, 5, 1, 3, 17);
        wrong("COSTS are not alike", 5, 0, 3, 1, 12, 3);
        wrong("COSTS are not alike by little", 5, 0, 3999, 1000, 12, 3);
        wrong("5 ahead of 7", 5, 0, 3, 1, 3, 12);
        wrong("COSTS are not alike, 5 ahead of 6", 13, 1, 9, 1, 12, 3);
        wrong("LEAST is less", 6, 0, 9, 2, 12, 16);
        wrong("6 ahead of 7", 6, 0, 9, 2, 16, 12);
        wrong("RISES the other way", 7, 0, 4, 1, 3, 12);
        wrong("like RISES", 15, 1, 5, 1, 16, 16);
    }

    /** "Strictly in THE WINDOW", whose ends are fractions: the ROWS are at 4 and at 5. */
    private static void promise30Windows() {
        int[][] windows = {{11, 3, 21, 4, -1}, {39, 10, 51, 10, -1}, {4, 1, 51, 10, 1}, {8, 2, 51, 10, 1}, {39, 10, 5, 1, 9},
            {39, 10, 15, 3, 9}, {7, 2, 14, 3, 9}, {3, 1, 999, 200, 9}, {801, 200, 6, 1, 1}, {-7, 3, 25, 6, 9}, {17, 4, 19, 4, 1}};
        for (int[] at : windows) {
            PriceBench bench = written();
            bench.window(at[0], at[1], at[2], at[3]);
            DUE.is("30: THE WINDOW from " + at[0] + "/" + at[1] + " to " + at[2] + "/" + at[3], bench.check(0), at[4]);
        }
    }

    /** "Of an OFFER": ROWS of one, checked for others, whatever their KIND is. */
    private static void promise30Offers() {
        PriceBench bench = NetTest.withThings(2);
        bench.line(0, 1, 9, 0);
        bench.line(0, 1, 3, 2);
        bench.line(1, 0, 0, 1);
        bench.tree();
        bench.way(0, 1);
        bench.pairing(2);
        bench.told();
        bench.tell(3, 2);
        bench.tell(3, 1);
        DUE.is("27: the WAY bends once", bench.write(1), 1);
        DUE.is("28: at 3", bench.row(0, 0), 3);
        int[] due = {6, -1, 6, -1};
        for (int offer = 0; offer < 4; offer++) {
            DUE.is("30: for OFFER " + offer, bench.check(offer), due[offer]);
        }
        bench.close();
        for (int offer = 0; offer < 4; offer++) {
            DUE.is("30: for OFFER " + offer + ", without LINE 2", bench.check(offer), -1);
        }
        bench.close();
        for (int offer = 0; offer < 4; offer++) {
            DUE.is("30: for OFFER " + offer + ", without LINE 1", bench.check(offer), 3);
        }
        bench.undo();
        bench.alter(0, 9, 2);
        for (int offer = 0; offer < 4; offer++) {
            DUE.is("30: for OFFER " + offer + ", LINE 0 altered", bench.check(offer), 5);
        }
    }

    private static void promise30Rows() {
        PriceBench bench = PriceTest.ways();
        DUE.is("30: fewer than BENDS", bench.check(0), -3);
        DUE.is("30: no ROWS, no BENDS", bench.check(1), -1);
        bench.window(0, 1, 9, 2);
        bench.write(0);
        DUE.is("30: as many", bench.check(0), -1);
        bench.window(0, 1, 10, 1);
        DUE.is("30: fewer", bench.check(0), -3);
        bench.window(0, 1, 4, 1);
        DUE.is("30: outside THE WINDOW now", bench.check(0), 1);
        bench = written();
        bench.forge(1, 0, 9);
        bench.forge(0, 2, 1);
        DUE.is("30: the first ROW", bench.check(0), 3);
        bench.forge(0, 2, 12);
        DUE.is("30: then the second one", bench.check(0), 13);
        bench = PriceTest.lines(0, 6, 3, 3, 6, 0, 1, 5, 3, 3);
        bench.write(0);
        bench.forge(0, 2, 8);
        bench.forge(0, 3, 16);
        DUE.is("30: not the BEND's own, but not WRONG", bench.check(0), -1);
    }

    public static void main(String[] args) {
        promise27();
        promise28();
        promise29();
        promise30();
        promise30Windows();
        promise30Offers();
        promise30Rows();
        DUE.end();
    }
}
