import java.util.ArrayList;
import java.util.List;
import java.util.function.Consumer;
import java.util.function.Supplier;
import java.util.function.ToLongFunction;

/**
 * Every refusal that a promise names, which of several comes first, and that a refused call changes nothing:
 * behind it all that the bench tells (Portrait), the step back too, is as without it.
 */
public final class RefusalTest {
    private static final Due DUE = new Due("RefusalTest");
    private static final long NO = PriceBench.NO;
    private static final int MIN = Integer.MIN_VALUE;
    private static final int MAX = Integer.MAX_VALUE;

    private final Supplier<PriceBench> maker;
    private final String state;
    private final List<String> before;

    /** A bench to which calls are refused, made anew for each; its portrait is taken once. */
    private RefusalTest(String state, Supplier<PriceBench> maker) {
        this.state = state;
        this.maker = maker;
        this.before = Portrait.of(maker);
    }

    private RefusalTest refuses(String call, long due, ToLongFunction<PriceBench> refused) {
        String name = call + ", " + state;
        DUE.is(name, refused.applyAsLong(maker.get()), due);
        List<String> behind = Portrait.of(() -> {
            PriceBench bench = maker.get();
            refused.applyAsLong(bench);
            return bench;
        });
        DUE.is(name + ": what is told behind it", behind.size(), before.size());
        for (int i = 0; i < Math.min(behind.size(), before.size()); i++) {
            if (!behind.get(i).equals(before.get(i))) {
                DUE.holds(name + " changes nothing: " + before.get(i) + ", not " + behind.get(i), false);
                return this;
            }
        }
        return this;
    }

    /**
     * OfferTest's ring; OFFERS 0 TOLD (SETS 1, 16 and 2048, whose LINE is not there), 1 TREE, 2 WAY, 3 PAIRING, 4 TOLD
     * without SETS; a WINDOW of its own, ROWS, a TRACE; SHEETS of bytes, ints and longs, and a missing one.
     */
    private static PriceBench rich() {
        PriceBench bench = OfferTest.ring();
        bench.told();
        bench.tell(0, 1);
        bench.tell(0, 16);
        bench.tell(0, 2048);
        bench.tree();
        bench.way(1, 0);
        bench.pairing(5);
        bench.told();
        bench.alter(0, 3, 4);
        bench.alter(4, 9, -2);
        bench.alter(2, 8, -3);
        bench.window(-5, 2, 29, 4);
        bench.write(1);
        bench.forge(0, 2, 77);
        for (int sheet = 0; sheet < 3; sheet++) {
            bench.sheet(sheet, sheet, 5 + sheet);
            for (int i = 0; i < 5; i++) {
                bench.cell(sheet, i, i % 2 + sheet);
            }
        }
        bench.act(3, 2, 9);
        return bench;
    }

    private static RefusalTest richAfter(String latest, Consumer<PriceBench> change) {
        return new RefusalTest("the latest change is " + latest, () -> {
            PriceBench bench = rich();
            change.accept(bench);
            return bench;
        });
    }

    /** The rich bench with each kind of change as the one that undo() would take back. */
    private static List<RefusalTest> richOnes() {
        List<RefusalTest> all = new ArrayList<>();
        all.add(richAfter("thing()", bench -> bench.thing()));
        all.add(richAfter("line()", bench -> bench.line(1, 3, 7, 7)));
        all.add(richAfter("alter()", bench -> bench.alter(3, 6, 5)));
        all.add(richAfter("close()", bench -> bench.close()));
        all.add(richAfter("lay()", bench -> {
            bench.cell(1, 1, 3);
            bench.lay(1, 1, 0);
        }));
        all.add(richAfter("undone", bench -> {
            bench.close();
            bench.undo();
        }));
        return all;
    }

    private static void ofTheNet(RefusalTest bench) {
        for (int none : new int[] {-1, 5, MIN, MAX}) {
            bench.refuses("3: line(), from " + none, -2, b -> b.line(none, 1, 0, 0));
            bench.refuses("3: line(), to " + none, -2, b -> b.line(1, none, 0, 0));
        }
        for (int a = 0; a < 4; a++) {
            int like = a;
            bench.refuses("3: line(), a = b = " + a, -2, b -> b.line(like, like, 0, 0));
        }
        for (int start : new int[] {-101, 101, MIN, MAX}) {
            bench.refuses("3: line(), START " + start, -2, b -> b.line(0, 1, start, 0));
            bench.refuses("4: alter(), START " + start, -2, b -> b.alter(2, start, 0));
        }
        for (int rise : new int[] {-21, 21, MIN, MAX}) {
            bench.refuses("3: line(), RISE " + rise, -2, b -> b.line(0, 1, 0, rise));
            bench.refuses("4: alter(), RISE " + rise, -2, b -> b.alter(2, 0, rise));
        }
        for (int line : new int[] {-1, 6, 12, MIN, MAX}) {
            bench.refuses("4: alter(), LINE " + line, -2, b -> b.alter(line, 0, 0));
            bench.refuses("7: lineTold(), no LINE " + line, -1, b -> b.lineTold(line, 3));
        }
        for (int what : new int[] {-1, 4, MIN, MAX}) {
            bench.refuses("7: lineTold(), what " + what, -2, b -> b.lineTold(0, what));
            bench.refuses("7: lineTold(), what " + what + " ahead of no LINE", -2, b -> b.lineTold(12, what));
        }
    }

    private static void ofOffers(RefusalTest bench) {
        for (int offer : new int[] {-1, 5, MIN, MAX}) {
            bench.refuses("9: tell(), OFFER " + offer, -2, b -> b.tell(offer, 0));
            bench.refuses("13: offerTold(), OFFER " + offer, -2, b -> b.offerTold(offer, 0));
            bench.refuses("14: choice(), OFFER " + offer + " ahead of NONE", -2, b -> b.choice(offer, -1));
            bench.refuses("38: taken(), OFFER " + offer, -11, b -> b.taken(offer, 0));
            bench.refuses("38: taken(), KIND ahead of OFFER " + offer, -2, b -> b.taken(offer, 4));
        }
        for (int kind = 1; kind < 4; kind++) {
            int other = kind;
            bench.refuses("9: tell(), KIND " + kind, -2, b -> b.tell(other, 0));
            bench.refuses("38: taken(), a TOLD for KIND " + kind, -13, b -> b.taken(0, other));
        }
        for (int set : new int[] {-1, 4096, MIN, MAX}) {
            bench.refuses("9: tell(), SET " + set, -2, b -> b.tell(0, set));
        }
        for (int set : new int[] {1, 16, 2048}) {
            bench.refuses("9: tell(), it has " + set, -3, b -> b.tell(0, set));
        }
        for (int none : new int[] {-1, 5, MIN, MAX}) {
            bench.refuses("11: way(), from " + none, -2, b -> b.way(none, 1));
            bench.refuses("11: way(), to " + none, -2, b -> b.way(1, none));
        }
        for (int a = 0; a < 4; a++) {
            int like = a;
            bench.refuses("11: way(), a = b = " + a, -2, b -> b.way(like, like));
        }
        for (int side : new int[] {-1, 32, 64, 33, MIN, MAX}) {
            bench.refuses("12: pairing(), SIDE " + side, -2, b -> b.pairing(side));
        }
        for (int what : new int[] {-1, 5, MIN, MAX}) {
            bench.refuses("13: offerTold(), what " + what, -2, b -> b.offerTold(0, what));
        }
        for (int i : new int[] {-1, 3, MIN, MAX}) {
            bench.refuses("14: choice(), i " + i, -1, b -> b.choice(0, i));
        }
        bench.refuses("38: taken(), a TREE for a WAY", -13, b -> b.taken(1, 2));
        bench.refuses("38: taken(), a TREE for a PAIRING", -13, b -> b.taken(1, 3));
        bench.refuses("38: taken(), a WAY for a TREE", -13, b -> b.taken(2, 1));
        bench.refuses("38: taken(), a WAY for a PAIRING", -13, b -> b.taken(2, 3));
        bench.refuses("38: taken(), a PAIRING for a WAY", -13, b -> b.taken(3, 2));
    }

    private static void ofPrices(RefusalTest bench) {
        int[][] none = {{-10001, 1}, {10001, 1}, {MIN, 1}, {MAX, 1}, {1, 0}, {1, -1}, {1, 1001}, {1, MIN}, {1, MAX}};
        for (int[] at : none) {
            String price = ", PRICE " + at[0] + " / " + at[1];
            bench.refuses("15: cost()" + price, NO, b -> b.cost(1, at[0], at[1], 0));
            bench.refuses("16: best()" + price, -2, b -> b.best(1, at[0], at[1], 0));
            bench.refuses("16: best()" + price + ", ahead of no CHOICES", -2, b -> b.best(4, at[0], at[1], 0));
            bench.refuses("17: least()" + price, NO, b -> b.least(1, at[0], at[1], 0));
            bench.refuses("18: window(), first" + price, -2, b -> b.window(at[0], at[1], 9999, 1));
            bench.refuses("18: window(), second" + price, -2, b -> b.window(-9999, 1, at[0], at[1]));
            bench.refuses("26: why()" + price, -2, b -> b.why(1, b.choice(1, 0), at[0], at[1]));
        }
        bench.refuses("18: window(), the second one is less", -2, b -> b.window(3, 1, 2, 1));
        bench.refuses("18: window(), just less", -2, b -> b.window(1, 2, 499, 999));
        bench.refuses("15: cost(), LINES that are not there", NO, b -> b.cost(64, 0, 1, 0));
        bench.refuses("15: cost(), LINES that are not there", NO, b -> b.cost(-1, 0, 1, 0));
        bench.refuses("15: cost(), what", NO, b -> b.cost(1, 0, 1, 2));
        bench.refuses("16: best(), way", -2, b -> b.best(1, 0, 1, 3));
        bench.refuses("16: best(), way ahead of no CHOICES", -2, b -> b.best(4, 0, 1, -1));
        bench.refuses("16: best(), no CHOICES", -1, b -> b.best(4, 0, 1, 0));
        bench.refuses("17: least(), no CHOICES", NO, b -> b.least(4, 0, 1, 0));
        bench.refuses("17: least(), what", NO, b -> b.least(1, 0, 1, 2));
        for (int offer : new int[] {-1, 5, MIN, MAX}) {
            bench.refuses("16: best(), OFFER " + offer, -2, b -> b.best(offer, 0, 1, 0));
            bench.refuses("17: least(), OFFER " + offer, NO, b -> b.least(offer, 0, 1, 0));
            bench.refuses("21: span(), OFFER " + offer, NO, b -> b.span(offer, 1, 0));
            bench.refuses("22: top(), OFFER " + offer, NO, b -> b.top(offer, 0));
            bench.refuses("23: ratio(), OFFER " + offer, NO, b -> b.ratio(offer, 0));
            bench.refuses("24: regret(), OFFER " + offer, NO, b -> b.regret(offer, 1, 0));
            bench.refuses("25: calm(), OFFER " + offer, -2, b -> b.calm(offer));
            bench.refuses("26: why(), OFFER " + offer, -2, b -> b.why(offer, 0, 0, 1));
        }
        for (int set : new int[] {-1, 0, 2, 17, 2048, 4096, MIN, MAX}) {
            bench.refuses("21: span(), no CHOICE " + set, NO, b -> b.span(0, set, 0));
            bench.refuses("24: regret(), no CHOICE " + set, NO, b -> b.regret(0, set, 0));
            bench.refuses("26: why(), no CHOICE " + set, -2, b -> b.why(1, set, 0, 1));
        }
        for (int other : new int[] {0, 2, 3, 4}) {
            bench.refuses("26: why(), no TREE", -2, b -> b.why(other, b.choice(other, 0), 0, 1));
        }
    }

    private static void ofBendsAndRows(RefusalTest bench) {
        for (int offer : new int[] {-1, 5, MIN, MAX}) {
            bench.refuses("19: bends(), OFFER " + offer, -2, b -> b.bends(offer));
            bench.refuses("20: bend(), OFFER " + offer, NO, b -> b.bend(offer, 0, 0));
            bench.refuses("27: write(), OFFER " + offer, -2, b -> b.write(offer));
            bench.refuses("30: check(), OFFER " + offer, -2, b -> b.check(offer));
        }
        for (int i : new int[] {-1, 40, MIN, MAX}) {
            bench.refuses("20: bend(), i " + i, NO, b -> b.bend(1, i, 0));
            bench.refuses("28: row(), i " + i, NO, b -> b.row(i, 0));
            bench.refuses("29: forge(), i " + i, -2, b -> b.forge(i, 0, 0));
        }
        bench.refuses("29: forge(), just behind the last ROW", -2, b -> b.forge(b.count(3), 0, 0));
        for (int what : new int[] {-1, 4, MIN, MAX}) {
            bench.refuses("20: bend(), what " + what, NO, b -> b.bend(1, 0, what));
            bench.refuses("28: row(), what " + what, NO, b -> b.row(0, what));
            bench.refuses("29: forge(), what " + what, -2, b -> b.forge(0, what, 0));
        }
        for (int v : new int[] {-1000001, 1000001, MIN, MAX}) {
            bench.refuses("29: forge(), v " + v, -2, b -> b.forge(0, 0, v));
        }
        for (int what : new int[] {-1, 5, MIN, MAX}) {
            bench.refuses("33: count(), what " + what, -2, b -> b.count(what));
        }
        for (int i : new int[] {-1, 15, 39, 40, MIN, MAX}) {
            bench.refuses("32: trace(), i " + i, -1, b -> b.trace(i));
        }
    }

    private static void ofSheets(RefusalTest bench) {
        for (int sheet : new int[] {-1, 4, MIN, MAX}) {
            bench.refuses("34: sheet(), SHEET " + sheet, -2, b -> b.sheet(sheet, 0, 1));
            bench.refuses("34: sheet(), SHEET " + sheet + " ahead of a size below 0", -2, b -> b.sheet(sheet, 0, -1));
            bench.refuses("34: sheet(), SHEET " + sheet + ", missing", -2, b -> b.sheet(sheet, -1, 0));
            bench.refuses("35: cell(), SHEET " + sheet + " ahead of its place", -2, b -> b.cell(sheet, -1, 0));
            bench.refuses("36: lay(), SHEET " + sheet + " ahead of its place", -2, b -> b.lay(sheet, 1, -1));
            bench.refuses("37: copy(), SHEET " + sheet + " ahead of -11", -2, b -> b.copy(sheet, 0, 3, 0, 0));
            bench.refuses("37: copy(), other SHEET " + sheet + " ahead of -11", -2, b -> b.copy(3, 0, sheet, 0, 0));
            bench.refuses("37: copy(), SHEET " + sheet + " ahead of -12", -2, b -> b.copy(sheet, 0, 1, 0, -1));
        }
        for (int sort : new int[] {-2, 3, MIN, MAX}) {
            bench.refuses("34: sheet(), sort " + sort, -2, b -> b.sheet(0, sort, 1));
            bench.refuses("34: sheet(), sort " + sort + " ahead of a size below 0", -2, b -> b.sheet(0, sort, -1));
        }
        for (int sort : new int[] {-2, -1, 3, MIN, MAX}) {
            bench.refuses("36: lay(), sort " + sort, -2, b -> b.lay(0, sort, 0));
            bench.refuses("36: lay(), sort " + sort + " ahead of -11", -2, b -> b.lay(3, sort, 0));
            bench.refuses("36: lay(), sort " + sort + " ahead of -12", -2, b -> b.lay(0, sort, -1));
        }
        for (int sort = 0; sort < 3; sort++) {
            int of = sort;
            int other = (sort + 1) % 3;
            bench.refuses("34: sheet(), 41", -2, b -> b.sheet(0, of, 41));
            bench.refuses("34: sheet(), far above 40", -2, b -> b.sheet(0, of, MAX));
            bench.refuses("34: sheet(), -1", -14, b -> b.sheet(0, of, -1));
            bench.refuses("34: sheet(), far below 0", -14, b -> b.sheet(0, of, MIN));
            bench.refuses("36: lay(), another sort", -13, b -> b.lay(of, other, 0));
            bench.refuses("36: lay(), another sort", -13, b -> b.lay(of, (of + 2) % 3, 0));
            bench.refuses("36: lay(), another sort ahead of -12", -13, b -> b.lay(of, other, -1));
            bench.refuses("36: lay(), missing", -11, b -> b.lay(3, of, 0));
            bench.refuses("36: lay(), missing ahead of -12", -11, b -> b.lay(3, of, -1));
            bench.refuses("37: copy(), not of one sort", -13, b -> b.copy(of, 0, other, 0, 1));
            bench.refuses("37: copy(), not of one sort, none", -13, b -> b.copy(of, 0, other, 0, 0));
            bench.refuses("37: copy(), not of one sort ahead of -12", -13, b -> b.copy(of, -1, other, 0, 1));
            bench.refuses("37: copy(), from a missing one", -11, b -> b.copy(3, 0, of, 0, 1));
            bench.refuses("37: copy(), to a missing one", -11, b -> b.copy(of, 0, 3, 0, 1));
            bench.refuses("37: copy(), missing ahead of -12", -11, b -> b.copy(3, -1, of, -1, -1));
            outside(bench, sort);
        }
        bench.refuses("35: cell(), missing", -11, b -> b.cell(3, 0, 1));
        bench.refuses("35: cell(), missing ahead of -12", -11, b -> b.cell(3, -1, 1));
        bench.refuses("37: copy(), a missing one to itself", -11, b -> b.copy(3, 0, 3, 0, 0));
    }

    private static void outside(RefusalTest bench, int sheet) {
        int size = 5 + sheet;
        for (int i : new int[] {-1, size, 40, MIN, MAX}) {
            bench.refuses("35: cell(), place " + i, -12, b -> b.cell(sheet, i, 1));
            bench.refuses("37: copy() from " + i, -12, b -> b.copy(sheet, i, sheet, 0, 1));
            bench.refuses("37: copy() to " + i, -12, b -> b.copy(sheet, 0, sheet, i, 1));
        }
        for (int i : new int[] {-1, size - 3, size, MIN, MAX, MAX - 2}) {
            bench.refuses("36: lay() from " + i, -12, b -> b.lay(sheet, sheet, i));
        }
        for (int n : new int[] {-1, size + 1, MIN, MAX}) {
            bench.refuses("37: copy() of " + n, -12, b -> b.copy(sheet, 0, sheet, 0, n));
        }
        bench.refuses("37: copy() beyond the end", -12, b -> b.copy(sheet, 2, sheet, 0, size - 1));
        bench.refuses("37: copy() beyond the other's end", -12, b -> b.copy(sheet, 0, sheet, 2, size - 1));
        bench.refuses("37: copy() of none beyond the end", -12, b -> b.copy(sheet, size + 1, sheet, 0, 0));
        bench.refuses("37: copy() of none beyond the other's end", -12, b -> b.copy(sheet, 0, sheet, size + 1, 0));
        bench.refuses("37: copy() of none from below 0", -12, b -> b.copy(sheet, -1, sheet, 0, 0));
        bench.refuses("37: copy() of none to below 0", -12, b -> b.copy(sheet, 0, sheet, -1, 0));
        bench.refuses("37: copy(), the sum wraps", -12, b -> b.copy(sheet, MAX, sheet, 0, 2));
        bench.refuses("37: copy(), the other sum wraps", -12, b -> b.copy(sheet, 0, sheet, MAX, 2));
    }

    /** A full bench: 7 THINGS, 12 LINES, 10 OFFERS, OFFER 0 with 8 SETS; the latest change can be undone. */
    private static PriceBench full() {
        PriceBench bench = NetTest.withThings(7);
        for (int i = 0; i < 12; i++) {
            bench.line(i % 7, (i + 1) % 7, i, 3 - i % 6);
        }
        bench.told();
        for (int i = 0; i < 8; i++) {
            bench.tell(0, 1 << i);
        }
        bench.way(0, 1);
        bench.way(6, 0);
        bench.pairing(42);
        while (bench.told() >= 0) {
            bench.tell(5, 3);
        }
        for (int sheet = 0; sheet < 3; sheet++) {
            bench.sheet(sheet, sheet, 40);
            bench.cell(sheet, 0, 1);
        }
        bench.write(1);
        bench.alter(3, 30, 3);
        return bench;
    }

    private static void whatIsFull() {
        RefusalTest bench = new RefusalTest("all is full", RefusalTest::full);
        bench.refuses("2: thing()", -4, b -> b.thing());
        bench.refuses("3: line()", -4, b -> b.line(0, 1, 0, 0));
        bench.refuses("3: line(), from ahead of FULL", -2, b -> b.line(7, 1, 0, 0));
        bench.refuses("3: line(), to ahead of FULL", -2, b -> b.line(0, -1, 0, 0));
        bench.refuses("3: line(), a = b ahead of FULL", -2, b -> b.line(1, 1, 0, 0));
        bench.refuses("3: line(), START ahead of FULL", -2, b -> b.line(0, 1, 101, 0));
        bench.refuses("3: line(), RISE ahead of FULL", -2, b -> b.line(0, 1, 0, -21));
        bench.refuses("8: told()", -4, b -> b.told());
        bench.refuses("9: tell()", -4, b -> b.tell(0, 256));
        bench.refuses("9: tell(), a SET that is not there", -4, b -> b.tell(0, 4095));
        bench.refuses("9: tell(), it has it, ahead of FULL", -3, b -> b.tell(0, 128));
        bench.refuses("9: tell(), no SET ahead of FULL", -2, b -> b.tell(0, 4096));
        bench.refuses("9: tell(), no SET ahead of FULL", -2, b -> b.tell(0, -1));
        bench.refuses("10: tree()", -4, b -> b.tree());
        bench.refuses("11: way()", -4, b -> b.way(1, 2));
        bench.refuses("11: way(), THINGS ahead of FULL", -2, b -> b.way(7, 2));
        bench.refuses("11: way(), THINGS ahead of FULL", -2, b -> b.way(1, -1));
        bench.refuses("11: way(), a = b ahead of FULL", -2, b -> b.way(2, 2));
        bench.refuses("12: pairing()", -4, b -> b.pairing(1));
        bench.refuses("12: pairing(), SIDE ahead of FULL", -2, b -> b.pairing(128));
        bench.refuses("12: pairing(), SIDE ahead of FULL", -2, b -> b.pairing(-1));
        for (int sort = 0; sort < 3; sort++) {
            int of = sort;
            bench.refuses("36: lay(), a = b ahead of FULL", -2, b -> b.lay(of, of, 1));
            bench.refuses("36: lay(), FULL", -4, b -> b.lay(of, of, 0));
            bench.refuses("36: lay(), -12 ahead of FULL", -12, b -> b.lay(of, of, 37));
            bench.refuses("36: lay(), -13 ahead of FULL", -13, b -> b.lay(of, (of + 1) % 3, 0));
            bench.refuses("36: lay(), -11 ahead of FULL", -11, b -> b.lay(3, of, 0));
            bench.refuses("36: lay(), sort ahead of FULL", -2, b -> b.lay(of, 3, 0));
        }
        bench.refuses("36: lay(), SHEET ahead of FULL", -2, b -> b.lay(4, 0, 0));
    }

    /** What line() refuses of four items, in SHEETS of ints; the SHEET stays as it is. */
    private static void whatLineRefuses() {
        int[][] bad = {{4, 1, 0, 0}, {-1, 1, 0, 0}, {0, 4, 0, 0}, {0, -1, 0, 0}, {2, 2, 0, 0}, {0, 1, 101, 0},
            {0, 1, -101, 0}, {0, 1, 0, 21}, {0, 1, 0, -21}, {0, 1, 256, 0}, {MIN, 1, 0, 0}, {0, MAX, 0, 0}};
        for (int[] items : bad) {
            for (int sort = 0; sort < 3; sort++) {
                if (sort == 0 && (items[2] == 256 || items[0] == MIN || items[1] == MAX)) {
                    continue;
                }
                int of = sort;
                new RefusalTest("SHEET 2 is of sort " + sort, () -> {
                    PriceBench bench = rich();
                    bench.sheet(2, of, 4);
                    for (int i = 0; i < 4; i++) {
                        bench.cell(2, i, items[i]);
                    }
                    return bench;
                }).refuses("36: lay() of " + java.util.Arrays.toString(items), -2, b -> b.lay(2, of, 0));
            }
        }
    }

    private static void whatIsState() {
        new RefusalTest("a new object", PriceBench::new)
                .refuses("5: close()", -3, b -> b.close())
                .refuses("6: undo()", -3, b -> b.undo());
        new RefusalTest("all LINES are closed", () -> {
            PriceBench bench = NetTest.withLines(1);
            bench.close();
            return bench;
        }).refuses("5: close()", -3, b -> b.close());
        richAfter("undone", bench -> {
            bench.close();
            bench.undo();
        }).refuses("6: undo()", -3, b -> b.undo());
        richAfter("thing(), which a WAY goes from", bench -> {
            bench.thing();
            bench.way(4, 0);
        }).refuses("6: undo()", -3, b -> b.undo());
        richAfter("thing(), which a WAY goes to", bench -> {
            bench.thing();
            bench.way(0, 4);
        }).refuses("6: undo()", -3, b -> b.undo());
        richAfter("thing(), which a SIDE has", bench -> {
            bench.thing();
            bench.pairing(17);
            bench.told();
        }).refuses("6: undo()", -3, b -> b.undo());
    }

    /** act() says "and no TRACE then": all else stays as it is. */
    private static void refusedActs() {
        for (int[] call : new int[][] {{-1, 0}, {5, 0}, {MIN, 1}, {MAX, 2}, {0, -1}, {0, 3}, {3, MIN}, {3, MAX}, {5, 3}}) {
            PriceBench bench = rich();
            DUE.is("31: a TRACE is there", bench.count(4), 15);
            DUE.is("31: act(" + call[0] + ", " + call[1] + ")", bench.act(call[0], call[1], 7), 0);
            DUE.is("31: no TRACE then", bench.count(4), 0);
            DUE.is("31: no TRACE then", bench.trace(0), -1);
            new RefusalTest("without a TRACE", () -> {
                PriceBench without = rich();
                without.act(-1, -1, 0);
                return without;
            }).refuses("31: act(" + call[0] + ", " + call[1] + ")", 0, b -> b.act(call[0], call[1], 7));
        }
    }

    /** A portrait that does not change would make all of this worthless: each good call must change it. */
    private static void portraitsShowChanges() {
        List<Consumer<PriceBench>> changes = List.of(
                b -> b.thing(), b -> b.line(0, 1, 0, 0), b -> b.alter(0, 3, 5), b -> b.alter(0, 3, 4), b -> b.close(),
                b -> b.undo(), b -> b.told(), b -> b.tell(0, 2047), b -> b.tree(), b -> b.way(0, 1),
                b -> b.pairing(0), b -> b.window(-5, 2, 30, 4), b -> b.window(-6, 2, 29, 4), b -> b.write(0),
                b -> b.forge(0, 2, 78), b -> b.act(0, 0, 0), b -> b.act(-1, 0, 0), b -> b.sheet(0, 0, 4),
                b -> b.sheet(1, 1, 6), b -> b.sheet(2, 1, 7), b -> b.sheet(1, -1, 0), b -> b.cell(0, 0, 9),
                b -> b.cell(2, 6, 1), b -> b.copy(1, 0, 1, 1, 1), b -> b.lay(0, 0, 0));
        List<String> before = Portrait.of(RefusalTest::rich);
        for (int i = 0; i < changes.size(); i++) {
            Consumer<PriceBench> change = changes.get(i);
            List<String> behind = Portrait.of(() -> {
                PriceBench bench = rich();
                change.accept(bench);
                return bench;
            });
            DUE.holds("the portrait shows change " + i, !behind.equals(before));
        }
    }

    public static void main(String[] args) {
        portraitsShowChanges();
        for (RefusalTest bench : richOnes()) {
            ofTheNet(bench);
            ofOffers(bench);
            ofPrices(bench);
            ofBendsAndRows(bench);
            ofSheets(bench);
        }
        whatIsFull();
        whatLineRefuses();
        whatIsState();
        refusedActs();
        DUE.end();
    }
}
