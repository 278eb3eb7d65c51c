import java.util.ArrayList;
import java.util.List;

/**
 * Every range that the document tells, promise by promise: the last number that is good and the first that is
 * not, on either side; and numbers far away. Each number is asked of a bench of its own.
 */
public final class RangeTest {
    private static final Due DUE = new Due("RangeTest");
    private static final long NO = PriceBench.NO;

    /**
     * THINGS 0 to 3; LINES 0 to 4, PriceTest's ways; OFFERS 0 WAY (3 CHOICES, 2 BENDS), 1 TOLD (SETS 3 and 12),
     * 2 TREE (LINES 1, 2, 3: 14 is a CHOICE), 3 PAIRING (0 and 3 against 1 and 2), 4 TOLD without SETS; 2 ROWS;
     * SHEETS of all sorts with five items that lay() takes from place 1 on.
     */
    private static PriceBench bench() {
        PriceBench bench = NetTest.withThings(4);
        bench.line(0, 1, 5, 1);
        bench.line(1, 3, 5, 1);
        bench.line(0, 2, 1, 2);
        bench.line(2, 3, 1, 2);
        bench.line(0, 3, 20, 0);
        bench.way(0, 3);
        bench.told();
        bench.tell(1, 3);
        bench.tell(1, 12);
        bench.tree();
        bench.pairing(9);
        bench.told();
        bench.write(0);
        for (int sheet = 0; sheet < 3; sheet++) {
            bench.sheet(sheet, sheet, 5);
            bench.cell(sheet, 2, 1);
        }
        bench.act(3, 2, 9);
        return bench;
    }

    private interface Call {
        long of(PriceBench bench, int number);
    }

    /** From the low to the high number the call is not refused (good ones are asked all, if they are few). */
    private static void range(String name, int low, int high, long refused, Call call) {
        range(name, low, high, refused, refused, call);
    }

    private static void range(String name, int low, int high, long refusedBelow, long refusedAbove, Call call) {
        List<Integer> good = new ArrayList<>(List.of(low, high));
        for (int number = low; high - low < 60 && number <= high; number++) {
            good.add(number);
        }
        for (int number : good) {
            long got = call.of(bench(), number);
            DUE.holds(name + ": " + number + " is good, not " + got, got != refusedBelow && got != refusedAbove);
        }
        for (int number : new int[] {low - 1, low - 2, Integer.MIN_VALUE}) {
            DUE.is(name + ": " + number, call.of(bench(), number), refusedBelow);
        }
        for (int number : new int[] {high + 1, high + 2, Integer.MAX_VALUE}) {
            DUE.is(name + ": " + number, call.of(bench(), number), refusedAbove);
        }
    }

    private static void starts(String promise, Call call) {
        range(promise + ": START", -100, 100, -2, call);
    }

    private static void rises(String promise, Call call) {
        range(promise + ": RISE", -20, 20, -2, call);
    }

    private static void priceP(String name, long refused, Call call) {
        range(name + ": p", -10000, 10000, refused, call);
    }

    private static void priceQ(String name, long refused, Call call) {
        range(name + ": q", 1, 1000, refused, call);
    }

    private static void ofTheNet() {
        range("3: from", 0, 2, -2, (b, n) -> b.line(n, 3, 0, 0));
        range("3: to", 1, 3, -2, (b, n) -> b.line(0, n, 0, 0));
        starts("3", (b, n) -> b.line(0, 1, n, 0));
        rises("3", (b, n) -> b.line(0, 1, 0, n));
        range("4: line", 0, 4, -2, (b, n) -> b.alter(n, 0, 0));
        starts("4", (b, n) -> b.alter(4, n, 0));
        rises("4", (b, n) -> b.alter(4, 0, n));
        range("7: line", 0, 4, -1, (b, n) -> b.lineTold(n, 0));
        range("7: what", 0, 3, -2, (b, n) -> b.lineTold(4, n));
        range("15: SETS of the LINES there are", 0, 31, NO, (b, n) -> b.cost(n, 1, 1, 0));
        priceP("15", NO, (b, n) -> b.cost(1, n, 1, 0));
        priceP("15", NO, (b, n) -> b.cost(1, n, 1000, 1));
        priceQ("15", NO, (b, n) -> b.cost(1, 1, n, 0));
        range("15: what", 0, 1, NO, (b, n) -> b.cost(1, 1, 1, n));
    }

    private static void ofOffers() {
        range("9: offer, a TOLD one", 4, 4, -2, (b, n) -> b.tell(n, 0));
        range("9: set", 0, 4095, -2, (b, n) -> b.tell(4, n));
        range("11: first", 0, 2, -2, (b, n) -> b.way(n, 3));
        range("11: other", 1, 3, -2, (b, n) -> b.way(0, n));
        range("12: side", 0, 15, -2, (b, n) -> b.pairing(n));
        range("13: offer", 0, 4, -2, (b, n) -> b.offerTold(n, 0));
        range("13: what", 0, 4, -2, (b, n) -> b.offerTold(0, n));
        range("14: offer", 0, 4, -2, (b, n) -> b.choice(n, 0));
        range("14: i", 0, 2, -1, (b, n) -> b.choice(0, n));
        range("14: i, the only CHOICE", 0, 0, -1, (b, n) -> {
            b.tell(4, 0);
            return b.choice(4, n);
        });
        range("38: offer", 0, 4, -11, (b, n) -> b.taken(n, n == 2 || n == 3 ? 1 : n == 0 ? 2 : 0));
        range("38: k", 0, 3, -2, (b, n) -> b.taken(3, n));
    }

    private static void sides() {
        for (int things = 0; things <= 7; things++) {
            PriceBench bench = NetTest.withThings(things);
            DUE.is("12: all bits of " + things + " THINGS", bench.pairing((1 << things) - 1), 0);
            DUE.is("12: one bit more", bench.pairing(1 << things), -2);
            DUE.is("12: the highest bit", bench.pairing(Integer.MIN_VALUE), -2);
            DUE.is("12: all bits", bench.pairing(-1), -2);
        }
    }

    private static void sets() {
        for (int lines = 0; lines <= 12; lines++) {
            PriceBench bench = NetTest.withLines(lines);
            DUE.is("15: all bits of " + lines + " LINES", bench.cost((1 << lines) - 1, 0, 1, 1), 1);
            DUE.is("15: one bit more", bench.cost(1 << lines, 0, 1, 1), NO);
            bench.told();
            DUE.is("9: any SET can be told", bench.tell(0, 4095), 1);
            DUE.is("8: a CHOICE if all its LINES are there", bench.offerTold(0, 1), lines == 12 ? 1 : 0);
            bench.tell(0, (1 << lines) - 1);
            DUE.is("8: all LINES there are", bench.offerTold(0, 1), 1);
        }
    }

    private static void ofPrices() {
        range("16: offer", 0, 4, -2, (b, n) -> b.best(n, 1, 1, 0));
        priceP("16", -2, (b, n) -> b.best(0, n, 1, 0));
        priceQ("16", -2, (b, n) -> b.best(0, 1, n, 1));
        range("16: way", 0, 2, -2, (b, n) -> b.best(0, 1, 1, n));
        range("17: offer", 0, 3, NO, (b, n) -> b.least(n, 1, 1, 0));
        priceP("17", NO, (b, n) -> b.least(0, n, 1, 0));
        priceQ("17", NO, (b, n) -> b.least(0, 1, n, 0));
        range("17: what", 0, 1, NO, (b, n) -> b.least(0, 1, 1, n));
        range("22: offer", 0, 3, NO, (b, n) -> b.top(n, 0));
        range("22: what", 0, 3, NO, (b, n) -> b.top(0, n));
        range("23: what", 0, 2, NO, (b, n) -> b.ratio(1, n));
        range("23: offer with RISES above 0", 1, 3, NO, (b, n) -> b.ratio(n, 0));
        range("24: what", 0, 1, NO, (b, n) -> b.regret(0, 3, n));
        range("24: set, the one CHOICE", 9, 9, NO, (b, n) -> {
            b.tell(4, 9);
            return b.regret(4, n, 0);
        });
        range("24: offer", 0, 1, NO, (b, n) -> b.regret(n, 12, 0));
        range("25: offer", 0, 4, -2, (b, n) -> b.calm(n));
        range("26: offer, the TREE", 2, 2, -2, (b, n) -> b.why(n, 14, 1, 1));
        priceP("26", -2, (b, n) -> b.why(2, 14, n, 1));
        priceQ("26", -2, (b, n) -> b.why(2, 14, 1, n));
        range("21: offer", 0, 1, NO, (b, n) -> b.span(n, 12, 0));
        range("21: what", 0, 4, NO, (b, n) -> b.span(0, 3, n));
        range("21: set, the one CHOICE", 9, 9, NO, (b, n) -> {
            b.tell(4, 9);
            return b.span(4, n, 0);
        });
    }

    private static void theWindow() {
        priceP("18: the first one", -2, (b, n) -> b.window(n, 1, 10000, 1));
        priceQ("18: the first one", -2, (b, n) -> b.window(0, n, 10000, 1));
        priceP("18: the second one", -2, (b, n) -> b.window(-10000, 1, n, 1));
        priceQ("18: the second one", -2, (b, n) -> b.window(0, 1, 1, n));
        range("18: not less", 10, 10000, -2, (b, n) -> b.window(10, 1, n, 1));
        range("18: not less, by fractions", 667, 10000, -2, (b, n) -> b.window(2, 3, n, 1000));
        range("18: not less, below 0", -666, 10000, -2, (b, n) -> b.window(-2, 3, n, 1000));
    }

    private static void ofBendsAndRows() {
        range("19: offer", 0, 4, -2, (b, n) -> b.bends(n));
        range("20: offer with BENDS", 0, 2, NO, (b, n) -> b.bend(n, 0, 0));
        range("20: i", 0, 1, NO, (b, n) -> b.bend(0, n, 0));
        range("20: what", 0, 3, NO, (b, n) -> b.bend(0, 0, n));
        range("27: offer", 0, 4, -2, (b, n) -> b.write(n));
        range("28: i", 0, 1, NO, (b, n) -> b.row(n, 0));
        range("28: what", 0, 3, NO, (b, n) -> b.row(1, n));
        range("29: i", 0, 1, -2, (b, n) -> b.forge(n, 0, 0));
        range("29: what", 0, 3, -2, (b, n) -> b.forge(1, n, 0));
        range("29: v", -1000000, 1000000, -2, (b, n) -> b.forge(1, 3, n));
        range("30: offer", 0, 4, -2, (b, n) -> b.check(n));
    }

    /** WRONG 1 as the numbers of the ROW 4 / 1 go out of what is good for a ROW of OFFER 0. */
    private static void wrongOnes() {
        for (int p = -2; p <= 12; p++) {
            PriceBench bench = bench();
            bench.forge(0, 0, p);
            int due = p <= 0 || p >= 10 ? 1 : p == 4 ? -1 : 5;
            DUE.is("30: above the line " + p, bench.check(0), due);
        }
        for (int q = -3; q <= 6; q++) {
            PriceBench bench = bench();
            bench.forge(0, 1, q);
            boolean bad = q <= 0 || q % 2 == 0;
            DUE.is("30: below the line " + q, bench.check(0), bad ? 1 : q == 1 ? -1 : 5);
        }
        int[][] edges = {{999, 1000, 5}, {1000, 999, 5}, {1001, 1000, 5}, {1002, 1001, 1}, {1, 1000, 5}, {1, 1001, 1},
            {9999, 1000, 5}, {9997, 1000, 5}, {10000, 999, 1}, {10001, 1000, 1}};
        for (int[] edge : edges) {
            PriceBench bench = bench();
            bench.forge(0, 0, edge[0]);
            bench.forge(0, 1, edge[1]);
            DUE.is("30: a PRICE? " + edge[0] + " / " + edge[1], bench.check(0), edge[2]);
        }
    }

    /** p goes as far as 10000 also for a ROW: only THE WINDOW ends there too, so the last one good is below it. */
    private static void wrongAtTheWidest() {
        int[][] edges = {{9999, 1, 5}, {10000, 1, 1}, {10001, 1, 1}, {-9999, 1, 5}, {-10000, 1, 1}, {-10001, 1, 1},
            {10000, 3, 5}, {10001, 2, 1}, {-10000, 3, 5}, {-10001, 2, 1}, {1000000, 999, 1}, {1, 1000000, 1}};
        for (int[] edge : edges) {
            PriceBench bench = bench();
            bench.window(-10000, 1, 10000, 1);
            bench.forge(0, 0, edge[0]);
            bench.forge(0, 1, edge[1]);
            DUE.is("30: in the widest WINDOW " + edge[0] + " / " + edge[1], bench.check(0), edge[2]);
        }
    }

    private static void ofActs() {
        range("31: offer", 0, 4, 0, (b, n) -> b.act(n, 0, 1000));
        range("31: act", 0, 2, 0, (b, n) -> b.act(1, n, 1000));
        range("32: i", 0, 14, -1, (b, n) -> b.trace(n));
        range("33: what", 0, 4, -2, (b, n) -> b.count(n));
    }

    private static void ofSheets() {
        range("34: sheet", 0, 3, -2, (b, n) -> b.sheet(n, 0, 1));
        range("34: sort", -1, 2, -2, (b, n) -> b.sheet(3, n, 1));
        for (int sort = 0; sort < 3; sort++) {
            int of = sort;
            range("34: n", 0, 40, -14, -2, (b, n) -> b.sheet(3, of, n));
            range("35: i", 0, 4, -12, (b, n) -> b.cell(of, n, 1));
            range("36: i", 0, 1, -12, (b, n) -> b.lay(of, of, n));
            range("37: i", 0, 3, -12, (b, n) -> b.copy(of, n, of, 0, 2));
            range("37: j", 0, 3, -12, (b, n) -> b.copy(of, 0, of, n, 2));
            range("37: n, by the SHEET's end", 0, 2, -12, (b, n) -> b.copy(of, 3, of, 0, n));
            range("37: n, by the other's end", 0, 2, -12, (b, n) -> b.copy(of, 0, of, 3, n));
            range("37: i, of none", 0, 5, -12, (b, n) -> b.copy(of, n, of, 0, 0));
            range("37: j, of none", 0, 5, -12, (b, n) -> b.copy(of, 0, of, n, 0));
        }
        range("35: sheet", 0, 3, -2, (b, n) -> b.cell(n, 0, 0));
        range("36: sheet", 0, 3, -2, (b, n) -> b.lay(n, 1, 1));
        range("36: sort", 0, 2, -2, (b, n) -> b.lay(1, n, 1));
        range("37: sheet", 0, 3, -2, (b, n) -> b.copy(n, 0, 1, 0, 1));
        range("37: other", 0, 3, -2, (b, n) -> b.copy(1, 0, n, 0, 1));
    }

    private static void numbersWithoutRange() {
        for (int any : new int[] {Integer.MIN_VALUE, -1, 0, 40, 41, Integer.MAX_VALUE}) {
            DUE.is("34: a SHEET goes missing, n " + any, bench().sheet(0, -1, any), 1);
            for (int sheet = 0; sheet < 3; sheet++) {
                DUE.is("35: v " + any, bench().cell(sheet, 0, any), 1);
            }
            DUE.holds("31: x " + any + " is good", bench().act(3, 2, any) != 0);
        }
    }

    /** The last place from which four items can be taken, in SHEETS of all sizes. */
    private static void layFromTheEnd() {
        for (int size = 0; size <= 40; size++) {
            PriceBench bench = NetTest.withThings(2);
            bench.sheet(0, 1, size);
            bench.cell(0, size - 3, 1);
            DUE.is("36: the last four of " + size, bench.lay(0, 1, size - 4), size < 4 ? -12 : 0);
            DUE.is("36: the last three and none", bench.lay(0, 1, size - 3), -12);
        }
    }

    public static void main(String[] args) {
        ofTheNet();
        ofOffers();
        sides();
        sets();
        ofPrices();
        theWindow();
        ofBendsAndRows();
        wrongOnes();
        wrongAtTheWidest();
        ofActs();
        ofSheets();
        numbersWithoutRange();
        layFromTheEnd();
        DUE.end();
    }
}
