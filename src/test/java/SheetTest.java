/** Promises 34 to 37: SHEETS. */
public final class SheetTest {
    private static final Due DUE = new Due("SheetTest");

    private static void promise34() {
        PriceBench bench = new PriceBench();
        for (int sheet = 0; sheet < 4; sheet++) {
            for (int sort = 0; sort < 3; sort++) {
                DUE.is("34: sheet()", bench.sheet(sheet, sort, 40), 1);
                DUE.is("34: its last item", bench.cell(sheet, 39, 1), 1);
                DUE.is("34: none behind it", bench.cell(sheet, 40, 1), -12);
            }
        }
        DUE.is("34: n above 40", bench.sheet(0, 1, 41), -2);
        DUE.is("34: n below 0", bench.sheet(0, 1, -1), -14);
        DUE.is("34: no such SHEET", bench.sheet(4, 1, -1), -2);
        DUE.is("34: no such SHEET", bench.sheet(-1, 1, 1), -2);
        DUE.is("34: no such sort", bench.sheet(0, 3, -1), -2);
        DUE.is("34: no such sort", bench.sheet(0, -2, 1), -2);
        DUE.is("34: refused ones change nothing", bench.cell(0, 39, 1), 1);
        DUE.is("34: of none", bench.sheet(0, 0, 0), 1);
        DUE.is("34: there, but without items", bench.cell(0, 0, 1), -12);
        DUE.is("34: missing, n above 40", bench.sheet(1, -1, 41), 1);
        DUE.is("34: missing, n below 0", bench.sheet(2, -1, Integer.MIN_VALUE), 1);
        DUE.is("34: missing", bench.cell(1, 0, 1), -11);
        DUE.is("34: missing", bench.cell(2, 0, 1), -11);
        bench.thing();
        bench.thing();
        bench.sheet(0, 1, 4);
        bench.cell(0, 0, 1);
        bench.sheet(0, 1, 5);
        DUE.is("34: all 0, so from = to", bench.lay(0, 1, 0), -2);
        bench.cell(0, 2, 1);
        DUE.is("34: all 0 but item 2", bench.lay(0, 1, 1), 0);
        DUE.is("34: from is 0", bench.lineTold(0, 0), 0);
    }

    /** "A SHEET becomes a row of n of a sort, all 0", whatever it was before; other SHEETS stay. */
    private static void promise34All0() {
        for (int before = 0; before < 3; before++) {
            for (int sort = 0; sort < 3; sort++) {
                PriceBench bench = NetTest.withThings(2);
                bench.sheet(0, before, 9);
                bench.sheet(2, before, 9);
                for (int i = 0; i < 9; i++) {
                    bench.cell(0, i, 50 + i);
                    bench.cell(2, i, 60 + i);
                }
                bench.sheet(0, sort, sort == 1 ? -1 : 41);
                DUE.is("34: refused, it stays as it was", Portrait.item(bench, 0, before, 8), 58);
                bench.sheet(0, sort, 2);
                DUE.is("34: its sort", Portrait.sortOf(bench, 0), sort);
                bench.sheet(0, sort, 9);
                for (int i = 0; i < 9; i++) {
                    DUE.is("34: all 0, item " + i, Portrait.item(bench, 0, sort, i), 0);
                }
                DUE.is("34: another SHEET stays", Portrait.item(bench, 2, before, 8), 68);
            }
        }
    }

    /** "Item i of a SHEET becomes v": that one alone, the first and the last one too. */
    private static void promise35OneItem() {
        for (int sort = 0; sort < 3; sort++) {
            for (int i = 0; i < 4; i++) {
                PriceBench bench = NetTest.withThings(2);
                bench.sheet(1, sort, 4);
                bench.sheet(3, sort, 4);
                DUE.is("35: cell(1, " + i + ", 77)", bench.cell(1, i, 77), 1);
                for (int k = 0; k < 4; k++) {
                    DUE.is("35: item " + k, Portrait.item(bench, 1, sort, k), k == i ? 77 : 0);
                    DUE.is("35: item " + k + " of another SHEET", Portrait.item(bench, 3, sort, k), 0);
                }
            }
        }
    }

    private static void promise35() {
        PriceBench bench = new PriceBench();
        bench.sheet(1, 2, 3);
        DUE.is("35: no such SHEET", bench.cell(4, 0, 0), -2);
        DUE.is("35: no such SHEET", bench.cell(-1, 0, 0), -2);
        DUE.is("35: missing, ahead of outside", bench.cell(0, -1, 0), -11);
        DUE.is("35: outside", bench.cell(1, -1, 0), -12);
        DUE.is("35: outside", bench.cell(1, 3, 0), -12);
        DUE.is("35: far outside", bench.cell(1, Integer.MAX_VALUE, 0), -12);
        DUE.is("35: cell()", bench.cell(1, 2, Integer.MIN_VALUE), 1);
        bench.thing();
        bench.thing();
        bench.sheet(0, 0, 4);
        bench.cell(0, 0, 256);
        bench.cell(0, 1, -255);
        bench.cell(0, 2, 200);
        bench.cell(0, 3, 1004);
        DUE.is("35: of bytes the lowest 8 bits", bench.lay(0, 0, 0), 0);
        int[] due = {0, 1, -56, -20};
        for (int what = 0; what < 4; what++) {
            DUE.is("35: byte " + what, bench.lineTold(0, what), due[what]);
        }
        bench.sheet(0, 1, 4);
        bench.cell(0, 1, 1);
        bench.cell(0, 2, 256);
        DUE.is("35: of ints all bits", bench.lay(0, 1, 0), -2);
    }

    private static void promise36() {
        PriceBench bench = NetTest.withThings(3);
        for (int sort = 0; sort < 3; sort++) {
            bench.sheet(sort, sort, 5);
            int[] items = {9, 2, 1, -100, 20};
            for (int i = 0; i < 5; i++) {
                bench.cell(sort, i, items[i]);
            }
            DUE.is("36: lay()", bench.lay(sort, sort, 1), sort);
            for (int what = 0; what < 4; what++) {
                DUE.is("36: what " + what, bench.lineTold(sort, what), items[what + 1]);
            }
            DUE.is("36: outside", bench.lay(sort, sort, 2), -12);
            DUE.is("36: outside", bench.lay(sort, sort, -1), -12);
            DUE.is("36: far outside", bench.lay(sort, sort, Integer.MAX_VALUE), -12);
            DUE.is("36: far outside", bench.lay(sort, sort, Integer.MIN_VALUE), -12);
            DUE.is("36: of another sort, ahead of outside", bench.lay(sort, (sort + 1) % 3, 9), -13);
            DUE.is("36: as line(): no such THING", bench.lay(sort, sort, 0), -2);
        }
        DUE.is("36: missing, ahead of outside", bench.lay(3, 1, -1), -11);
        DUE.is("36: no such SHEET", bench.lay(4, 1, 0), -2);
        DUE.is("36: no such SHEET", bench.lay(-1, 1, 0), -2);
        DUE.is("36: no such sort", bench.lay(0, 3, 0), -2);
        DUE.is("36: no such sort, though it is missing", bench.lay(3, -1, 0), -2);
        DUE.is("36: refused ones change nothing", bench.count(1), 3);
        for (int i = 3; i < 12; i++) {
            DUE.is("36: lay()", bench.lay(1, 1, 1), i);
        }
        DUE.is("36: as line(): FULL", bench.lay(1, 1, 1), -4);
        DUE.is("36: as line(): BAD ahead of FULL", bench.lay(1, 1, 0), -2);
    }

    /** The items of a SHEET of ints, from one on, as lay() shows them in a LINE from THING 0 to 1. */
    private static void showsStarts(String about, PriceBench bench, int sheet, int... due) {
        for (int i = 0; i < due.length; i++) {
            bench.sheet(3, 1, 4);
            bench.cell(3, 1, 1);
            bench.copy(sheet, i, 3, 2, 1);
            int line = bench.lay(3, 1, 0);
            DUE.is("37: " + about + ", item " + i, bench.lineTold(line, 2), due[i]);
            bench.close();
        }
    }

    private static void promise37() {
        PriceBench bench = NetTest.withThings(2);
        bench.sheet(0, 1, 6);
        bench.sheet(1, 1, 3);
        bench.sheet(2, 0, 3);
        for (int i = 0; i < 6; i++) {
            bench.cell(0, i, 11 + i);
        }
        DUE.is("37: copy()", bench.copy(0, 2, 1, 1, 2), 2);
        showsStarts("to another one", bench, 1, 0, 13, 14);
        DUE.is("37: the same, up", bench.copy(0, 0, 0, 1, 5), 5);
        showsStarts("the same, up", bench, 0, 11, 11, 12, 13, 14, 15);
        DUE.is("37: the same, down", bench.copy(0, 2, 0, 0, 4), 4);
        showsStarts("the same, down", bench, 0, 12, 13, 14, 15, 14, 15);
        DUE.is("37: none, at both ends", bench.copy(0, 6, 1, 3, 0), 0);
        DUE.is("37: none, beyond an end", bench.copy(0, 7, 1, 0, 0), -12);
        DUE.is("37: none, beyond the other's end", bench.copy(0, 0, 1, 4, 0), -12);
        DUE.is("37: beyond the end", bench.copy(0, 4, 1, 0, 3), -12);
        DUE.is("37: beyond the other's end", bench.copy(0, 0, 1, 1, 3), -12);
        DUE.is("37: n below 0", bench.copy(0, 0, 1, 0, -1), -12);
        DUE.is("37: i below 0", bench.copy(0, -1, 1, 0, 1), -12);
        DUE.is("37: j below 0", bench.copy(0, 0, 1, -1, 1), -12);
        int most = Integer.MAX_VALUE;
        DUE.is("37: far beyond", bench.copy(0, most, 1, 0, most), -12);
        DUE.is("37: far beyond", bench.copy(0, 1, 1, 1, most), -12);
        DUE.is("37: not of one sort, ahead of -12", bench.copy(0, 0, 2, 0, -1), -13);
        bench.sheet(3, -1, 0);
        DUE.is("37: missing, ahead of -12", bench.copy(3, 0, 0, 0, -1), -11);
        DUE.is("37: the other one is missing", bench.copy(0, 0, 3, 0, 1), -11);
        DUE.is("37: both are missing", bench.copy(3, 0, 3, 0, 0), -11);
        DUE.is("37: no such SHEET", bench.copy(4, 0, 3, 0, 0), -2);
        DUE.is("37: no such SHEET", bench.copy(3, 0, -1, 0, 0), -2);
        showsStarts("refused ones change nothing", bench, 1, 0, 13, 14);
    }

    public static void main(String[] args) {
        promise34();
        promise34All0();
        promise35();
        promise35OneItem();
        promise36();
        promise37();
        DUE.end();
    }
}
