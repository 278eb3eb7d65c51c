import java.util.ArrayList;
import java.util.List;
import java.util.function.Supplier;

/**
 * All that a bench's reading calls tell, in words, so that two benches can be compared. Reading SHEETS and the
 * step back changes a bench, and an object stands only 512 calls: so each part is asked of a bench of its own.
 */
final class Portrait {
    private static final int[][] PRICES = {{-10000, 1}, {-3, 2}, {0, 1}, {1, 1}, {7, 3}, {10000, 1}};

    private final Supplier<PriceBench> maker;
    private final List<String> told = new ArrayList<>();
    private PriceBench bench;
    private int asked;

    private Portrait(Supplier<PriceBench> maker) {
        this.maker = maker;
    }

    static List<String> of(Supplier<PriceBench> maker) {
        Portrait portrait = new Portrait(maker);
        portrait.net();
        portrait.rows();
        portrait.trace();
        for (int offer = 0; offer < 10; offer++) {
            portrait.offer(offer);
        }
        portrait.stepBack();
        for (int sheet = 0; sheet < 4; sheet++) {
            portrait.sheet(sheet);
        }
        return portrait.told;
    }

    private void begin() {
        bench = maker.get();
        asked = 0;
    }

    private void tell(String call, long answer) {
        told.add(call + " = " + answer);
        asked++;
        if (asked > 400) {
            throw new IllegalStateException("too many calls of one object");
        }
    }

    private void net() {
        begin();
        netAsItStands("");
    }

    private void netAsItStands(String when) {
        for (int what = 0; what < 4; what++) {
            tell(when + "count(" + what + ")", bench.count(what));
        }
        for (int line = 0; line < 12; line++) {
            for (int what = 0; what < 4; what++) {
                tell(when + "lineTold(" + line + ", " + what + ")", bench.lineTold(line, what));
            }
        }
    }

    private void rows() {
        begin();
        for (int i = 0; i < 10; i++) {
            for (int what = 0; what < 4; what++) {
                tell("row(" + i + ", " + what + ")", bench.row(i, what));
            }
            tell("check(" + i + ")", bench.check(i));
        }
    }

    private void trace() {
        begin();
        tell("count(4)", bench.count(4));
        for (int i = 0; i < 40; i++) {
            tell("trace(" + i + ")", bench.trace(i));
        }
    }

    private void offer(int offer) {
        begin();
        for (int what = 0; what < 5; what++) {
            tell("offerTold(" + offer + ", " + what + ")", bench.offerTold(offer, what));
        }
        for (int what = 0; what < 4; what++) {
            tell("top(" + offer + ", " + what + ")", bench.top(offer, what));
            tell("ratio(" + offer + ", " + what + ")", bench.ratio(offer, what));
        }
        tell("calm(" + offer + ")", bench.calm(offer));
        int bends = bench.bends(offer);
        for (int i = 0; i <= bends; i++) {
            for (int what = 0; what < 4; what++) {
                tell("bend(" + offer + ", " + i + ", " + what + ")", bench.bend(offer, i, what));
            }
        }
        for (int[] price : PRICES) {
            for (int way = 0; way < 3; way++) {
                tell("best(" + offer + ", " + price[0] + ", " + price[1] + ", " + way + ")",
                        bench.best(offer, price[0], price[1], way));
            }
            tell("least(" + offer + ", " + price[0] + ", " + price[1] + ", 0)",
                    bench.least(offer, price[0], price[1], 0));
        }
        int many = bench.offerTold(offer, 1);
        for (int i = 0; i < Math.min(many, 20); i++) {
            choice(offer, i);
        }
    }

    private void choice(int offer, int i) {
        int set = bench.choice(offer, i);
        tell("choice(" + offer + ", " + i + ")", set);
        for (int what = 0; what < 5; what++) {
            tell("span(" + offer + ", " + set + ", " + what + ")", bench.span(offer, set, what));
        }
        tell("regret(" + offer + ", " + set + ", 0)", bench.regret(offer, set, 0));
        tell("regret(" + offer + ", " + set + ", 1)", bench.regret(offer, set, 1));
        tell("why(" + offer + ", " + set + ", 1, 1)", bench.why(offer, set, 1, 1));
    }

    private void stepBack() {
        begin();
        tell("undo()", bench.undo());
        netAsItStands("behind undo(): ");
        tell("behind undo(): undo()", bench.undo());
    }

    /** Whether it is there, its sort, its size, and each item by its sign or as a START. */
    private void sheet(int sheet) {
        begin();
        int sort = sortOf(bench, sheet);
        tell("sort of SHEET " + sheet, sort);
        int size = 0;
        while (sort >= 0 && size < 41 && bench.copy(sheet, size + 1, sheet, size + 1, 0) == 0) {
            size++;
        }
        tell("size of SHEET " + sheet, size);
        for (int i = 0; i < size; i++) {
            tell("item " + i + " of SHEET " + sheet, item(bench, sheet, sort, i));
        }
    }

    /** -1 if it is missing; else the sort for which only the place is refused. */
    static int sortOf(PriceBench bench, int sheet) {
        for (int sort = 0; sort < 3; sort++) {
            if (bench.lay(sheet, sort, -1) == -12) {
                return sort;
            }
        }
        return -1;
    }

    /** An item of a SHEET as the START of a LINE that is laid and closed again; below -100 what lay() refuses. */
    static long item(PriceBench bench, int sheet, int sort, int i) {
        while (bench.count(0) < 2) {
            bench.thing();
        }
        if (bench.count(1) == 12) {
            bench.close();
        }
        int other = (sheet + 1) % 4;
        bench.sheet(other, sort, 4);
        bench.cell(other, 1, 1);
        bench.copy(sheet, i, other, 2, 1);
        int line = bench.lay(other, sort, 0);
        if (line < 0) {
            return -1000 + line;
        }
        int start = bench.lineTold(line, 2);
        bench.close();
        return start;
    }
}
