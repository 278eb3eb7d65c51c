/** Promises 15 to 26: what OFFERS COST at PRICES. */
public final class PriceTest {
    private static final Due DUE = new Due("PriceTest");
    private static final long NO = PriceBench.NO;

    /**
     * OFFER 0, a WAY with the CHOICES 3 (START 10, RISE 2), 12 (2, 4) and 16 (20, 0), in THE ORDER: its BENDS
     * are at 4 (from 12 to 3) and at 5 (from 3 to 16). OFFER 1, a WAY without CHOICES.
     */
    static PriceBench ways() {
        PriceBench bench = NetTest.withThings(4);
        bench.line(0, 1, 5, 1);
        bench.line(1, 3, 5, 1);
        bench.line(0, 2, 1, 2);
        bench.line(2, 3, 1, 2);
        bench.line(0, 3, 20, 0);
        bench.way(0, 3);
        bench.way(3, 0);
        return bench;
    }

    /** OFFER 0, a TOLD one: each LINE, of START and RISE, alone is a CHOICE. */
    static PriceBench lines(int... startsAndRises) {
        PriceBench bench = NetTest.withThings(2);
        bench.told();
        for (int i = 0; i < startsAndRises.length / 2; i++) {
            bench.line(0, 1, startsAndRises[2 * i], startsAndRises[2 * i + 1]);
            bench.tell(0, 1 << i);
        }
        return bench;
    }

    private static void promise15() {
        PriceBench bench = ways();
        DUE.is("15: above the line", bench.cost(3, 3, 4, 0), 23);
        DUE.is("15: below the line", bench.cost(3, 3, 4, 1), 2);
        DUE.is("15: a PRICE not in lowest terms", bench.cost(12, 2, 8, 0), 3);
        DUE.is("15: below 0", bench.cost(12, -3, 4, 0), -1);
        DUE.is("15: below 0", bench.cost(12, -3, 4, 1), 1);
        DUE.is("15: 0 is 0 by 1", bench.cost(12, -1, 2, 0), 0);
        DUE.is("15: 0 is 0 by 1", bench.cost(12, -1, 2, 1), 1);
        DUE.is("15: the empty SET", bench.cost(0, 7, 9, 1), 1);
        DUE.is("15: all LINES", bench.cost(31, 10000, 1, 0), 60032);
        DUE.is("15: edges", bench.cost(31, -10000, 1000, 0), -28);
        DUE.is("15: LINES that are not there", bench.cost(32, 0, 1, 0), NO);
        DUE.is("15: LINES that are not there", bench.cost(-1, 0, 1, 0), NO);
        DUE.is("15: LINES that are not there", bench.cost(4097, 0, 1, 0), NO);
        DUE.is("15: no PRICE", bench.cost(1, 10001, 1, 0), NO);
        DUE.is("15: no PRICE", bench.cost(1, -10001, 1, 0), NO);
        DUE.is("15: no PRICE", bench.cost(1, 0, 0, 0), NO);
        DUE.is("15: no PRICE", bench.cost(1, 0, 1001, 0), NO);
        DUE.is("15: what", bench.cost(1, 0, 1, 2), NO);
        DUE.is("15: what", bench.cost(1, 0, 1, -1), NO);
        bench.close();
        DUE.is("15: LINE 4 is not there any more", bench.cost(16, 0, 1, 0), NO);
    }

    private static void promise16() {
        PriceBench bench = ways();
        int[][] due = {{3, 1, 12, 12, 12}, {4, 1, 3, 3, 12}, {9, 2, 3, 3, 3}, {10, 2, 3, 16, 3}, {6, 1, 16, 16, 16}};
        for (int[] at : due) {
            for (int way = 0; way < 3; way++) {
                DUE.is("16: best(0, " + at[0] + ", " + at[1] + ", " + way + ")",
                        bench.best(0, at[0], at[1], way), at[2 + way]);
            }
        }
        DUE.is("16: no CHOICES", bench.best(1, 0, 1, 0), -1);
        DUE.is("16: no such OFFER", bench.best(2, 0, 1, 0), -2);
        DUE.is("16: no PRICE", bench.best(0, 0, 0, 0), -2);
        DUE.is("16: no PRICE", bench.best(0, 10001, 1, 0), -2);
        DUE.is("16: way", bench.best(0, 0, 1, 3), -2);
        DUE.is("16: way", bench.best(0, 0, 1, -1), -2);
        DUE.is("16: BAD without CHOICES", bench.best(1, 0, 0, 0), -2);
        bench = lines(3, 1, 2, 2, 2, 2, 4, 0, 4, 0);
        DUE.is("16: like RISES, BELOW is first in THE ORDER", bench.best(0, 1, 1, 2), 2);
        DUE.is("16: like RISES, ABOVE is first in THE ORDER", bench.best(0, 1, 1, 1), 8);
        DUE.is("16: BEST is first in THE ORDER", bench.best(0, 1, 1, 0), 1);
    }

    private static void promise17() {
        PriceBench bench = ways();
        DUE.is("17: least()", bench.least(0, 1, 3, 0), 10);
        DUE.is("17: least()", bench.least(0, 1, 3, 1), 3);
        DUE.is("17: least()", bench.least(0, 9, 2, 0), 19);
        DUE.is("17: 0 is 0 by 1", bench.least(0, -1, 2, 1), 1);
        DUE.is("17: edges", bench.least(0, -10000, 1, 0), -39998);
        bench.told();
        bench.tell(2, 16);
        bench.tell(2, 12);
        bench.tell(2, 3);
        DUE.is("17: told the other way round", bench.least(2, 9, 2, 0), 19);
        DUE.is("17: told the other way round", bench.least(2, 6, 1, 0), 20);
        DUE.is("17: told the other way round", bench.least(2, 1, 1, 0), 6);
        DUE.is("17: no such OFFER", bench.least(3, 0, 1, 0), NO);
        DUE.is("17: no CHOICES", bench.least(1, 0, 1, 0), NO);
        DUE.is("17: no PRICE", bench.least(0, 0, 1001, 0), NO);
        DUE.is("17: what", bench.least(0, 0, 1, 2), NO);
        DUE.is("17: what", bench.least(0, 0, 1, -1), NO);
    }

    private static void promise18() {
        PriceBench bench = ways();
        DUE.is("18: edges", bench.window(-10000, 1, 10000, 1), 1);
        DUE.is("18: like ones", bench.window(2, 4, 1, 2), 1);
        DUE.is("18: told in lowest terms", bench.top(0, 1), 2);
        DUE.is("18: told in lowest terms", bench.top(0, 0), 1);
        DUE.is("18: the second one is less", bench.window(1, 2, 499, 1000), -2);
        DUE.is("18: no PRICE", bench.window(-10001, 1, 0, 1), -2);
        DUE.is("18: no PRICE", bench.window(0, 0, 1, 1), -2);
        DUE.is("18: no PRICE", bench.window(0, 1, 10001, 1), -2);
        DUE.is("18: no PRICE", bench.window(0, 1, 1, 1001), -2);
        DUE.is("18: refused ones change nothing", bench.top(0, 1), 2);
    }

    private static void promise19() {
        PriceBench bench = ways();
        DUE.is("19: bends()", bench.bends(0), 2);
        DUE.is("19: no CHOICES", bench.bends(1), 0);
        DUE.is("19: no such OFFER", bench.bends(2), -2);
        DUE.is("19: no such OFFER", bench.bends(-1), -2);
        bench.window(4, 1, 5, 1);
        DUE.is("19: strictly", bench.bends(0), 0);
        bench.window(4, 1, 51, 10);
        DUE.is("19: the second one", bench.bends(0), 1);
        DUE.is("19: the second one", bench.bend(0, 0, 0), 5);
        bench.window(39, 10, 5, 1);
        DUE.is("19: the first one", bench.bends(0), 1);
        DUE.is("19: the first one", bench.bend(0, 0, 0), 4);
        bench.window(9, 2, 9, 2);
        DUE.is("19: an empty WINDOW", bench.bends(0), 0);
        bench = lines(2, 1, 2, 1, 5, 1);
        DUE.is("19: like RISES do not bend", bench.bends(0), 0);
        bench.alter(2, 3, 0);
        DUE.is("19: one of the twins bends", bench.bends(0), 1);
    }

    private static void promise20() {
        PriceBench bench = ways();
        long[][] due = {{4, 1, 12, 3, NO}, {5, 1, 3, 16, NO}, {NO, NO, NO, NO, NO}};
        for (int i = 0; i < 3; i++) {
            for (int what = 0; what < 5; what++) {
                DUE.is("20: bend(0, " + i + ", " + what + ")", bench.bend(0, i, what), due[i][what]);
            }
        }
        DUE.is("20: what", bench.bend(0, 0, -1), NO);
        DUE.is("20: no such BEND", bench.bend(0, -1, 0), NO);
        DUE.is("20: no such OFFER", bench.bend(2, 0, 0), NO);
        DUE.is("20: no CHOICES", bench.bend(1, 0, 0), NO);
        bench = lines(0, 6, 1, 5, 2, 4, 6, 0, 3, 3);
        DUE.is("20: all meet at 1", bench.bends(0), 1);
        DUE.is("20: BELOW", bench.bend(0, 0, 2), 1);
        DUE.is("20: ABOVE", bench.bend(0, 0, 3), 8);
        bench.alter(3, 8, 0);
        DUE.is("20: lowest terms", bench.bend(0, 1, 0), 5);
        DUE.is("20: lowest terms", bench.bend(0, 1, 1), 3);
    }

    private static void spans(String about, PriceBench bench, int set, long... due) {
        for (int what = 0; what < 5; what++) {
            DUE.is("21: " + about + ", what " + what, bench.span(0, set, what), due[what]);
        }
    }

    private static void promise21() {
        PriceBench bench = ways();
        bench.window(0, 1, 0, 1);
        spans("between BENDS, whatever THE WINDOW is", bench, 3, 1, 4, 1, 5, 1);
        spans("all below", bench, 12, 1, 0, 0, 4, 1);
        spans("all above", bench, 16, 1, 5, 1, 0, 0);
        spans("no CHOICE", bench, 15, NO, NO, NO, NO, NO);
        DUE.is("21: what", bench.span(0, 3, 5), NO);
        DUE.is("21: what", bench.span(0, 3, -1), NO);
        DUE.is("21: no such OFFER", bench.span(2, 3, 0), NO);
        DUE.is("21: no CHOICES", bench.span(1, 3, 0), NO);
        bench = lines(0, 2, 2, 0, 1, 1, 5, 1, 2, 0);
        spans("one PRICE", bench, 4, 1, 1, 1, 1, 1);
        spans("none", bench, 8, 0, NO, NO, NO, NO);
        spans("a twin", bench, 16, 1, 1, 1, 0, 0);
        bench.alter(2, 3, 1);
        spans("none, between two", bench, 4, 0, NO, NO, NO, NO);
        bench = lines(7, 7);
        spans("the only CHOICE", bench, 1, 1, 0, 0, 0, 0);
        bench = lines(-100, 20, 100, -20, 99, -19);
        spans("none, below a meeting", bench, 4, 0, NO, NO, NO, NO);
        bench.alter(2, -6, 1);
        spans("fractions", bench, 4, 1, 94, 19, 106, 21);
    }

    private static void tops(String about, PriceBench bench, long... due) {
        for (int what = 0; what < 4; what++) {
            DUE.is("22: " + about + ", what " + what, bench.top(0, what), due[what]);
        }
    }

    private static void promise22() {
        PriceBench bench = ways();
        tops("at a BEND, the least of like ones", bench, 5, 1, 20, 1);
        bench.window(-3, 1, 9, 2);
        tops("at the last PRICE", bench, 9, 2, 19, 1);
        bench.window(18, 3, 8, 1);
        tops("at the first PRICE, of like ones", bench, 6, 1, 20, 1);
        bench.window(1, 4, 1, 4);
        tops("at the only PRICE", bench, 1, 4, 3, 1);
        DUE.is("22: what", bench.top(0, 4), NO);
        DUE.is("22: what", bench.top(0, -1), NO);
        DUE.is("22: no such OFFER", bench.top(2, 0), NO);
        DUE.is("22: no CHOICES", bench.top(1, 0), NO);
        bench = lines(0, 3, 10, -4);
        tops("where it turns", bench, 10, 7, 30, 7);
        bench.alter(0, 0, -1);
        tops("it falls", bench, 0, 1, 0, 1);
    }

    private static void promise23() {
        PriceBench bench = ways();
        DUE.is("23: a RISE is 0", bench.ratio(0, 0), NO);
        bench.alter(4, 20, 1);
        DUE.is("23: above", bench.ratio(0, 0), 1);
        DUE.is("23: below", bench.ratio(0, 1), 2);
        DUE.is("23: which", bench.ratio(0, 2), 12);
        bench.alter(4, 20, -1);
        DUE.is("23: a RISE is below 0", bench.ratio(0, 2), NO);
        bench = lines(3, 4, 8, 4);
        DUE.is("23: the very first CHOICE", bench.ratio(0, 2), 1);
        DUE.is("23: the very first CHOICE", bench.ratio(0, 1), 4);
        bench = lines(8, 4, 4, 2, 2, 1, -3, 1, -6, 2, 100, 20);
        DUE.is("23: below 0", bench.ratio(0, 0), -3);
        DUE.is("23: the first in THE ORDER", bench.ratio(0, 2), 8);
        DUE.is("23: what", bench.ratio(0, 3), NO);
        DUE.is("23: what", bench.ratio(0, -1), NO);
        DUE.is("23: no such OFFER", bench.ratio(1, 0), NO);
        bench.told();
        DUE.is("23: no CHOICES", bench.ratio(1, 0), NO);
        bench.tell(1, 0);
        DUE.is("23: the empty SET's RISE is 0", bench.ratio(1, 0), NO);
    }

    private static void promise24() {
        PriceBench bench = ways();
        DUE.is("24: at the last PRICE", bench.regret(0, 3, 0), 10);
        DUE.is("24: at the last PRICE", bench.regret(0, 12, 0), 22);
        DUE.is("24: at the first PRICE", bench.regret(0, 16, 0), 18);
        bench.window(-1, 3, 1, 7);
        DUE.is("24: a fraction", bench.regret(0, 3, 0), 26);
        DUE.is("24: a fraction", bench.regret(0, 3, 1), 3);
        DUE.is("24: none", bench.regret(0, 12, 0), 0);
        DUE.is("24: none", bench.regret(0, 12, 1), 1);
        DUE.is("24: no CHOICE", bench.regret(0, 5, 0), NO);
        DUE.is("24: what", bench.regret(0, 3, 2), NO);
        DUE.is("24: what", bench.regret(0, 3, -1), NO);
        DUE.is("24: no such OFFER", bench.regret(2, 3, 0), NO);
        DUE.is("24: no CHOICES", bench.regret(1, 3, 0), NO);
    }

    private static void promise25() {
        PriceBench bench = ways();
        DUE.is("25: calm()", bench.calm(0), 3);
        DUE.is("25: no CHOICES", bench.calm(1), -1);
        DUE.is("25: no such OFFER", bench.calm(2), -2);
        DUE.is("25: no such OFFER", bench.calm(-1), -2);
        bench.window(0, 1, 4, 1);
        DUE.is("25: only what is ABOVE at the first PRICE", bench.calm(0), 12);
        bench.window(4, 1, 4, 1);
        DUE.is("25: ABOVE, not BELOW", bench.calm(0), 3);
        bench.window(0, 1, 100, 1);
        DUE.is("25: what is ABOVE at the last BEND", bench.calm(0), 16);
        bench = lines(11, 2, 20, 0, 0, 4);
        DUE.is("25: of like ones the first, and none that is never of LEAST", bench.calm(0), 2);
        bench.window(5, 1, 5, 1);
        DUE.is("25: ABOVE has the least RISE", bench.calm(0), 2);
        bench = lines(0, 4, 20, 0, 11, 2);
        DUE.is("25: of like ones the first", bench.calm(0), 1);
        bench.window(5, 1, 5, 1);
        DUE.is("25: ABOVE, though another one is first in THE ORDER", bench.calm(0), 2);
    }

    private static void promise26() {
        PriceBench bench = NetTest.withThings(4);
        bench.line(0, 1, 5, 0);
        bench.line(2, 1, 5, 0);
        bench.line(2, 3, 3, 0);
        bench.line(3, 0, 4, 0);
        bench.line(3, 2, 2, 1);
        bench.tree();
        DUE.is("26: of like ones the least", bench.why(0, 7, 0, 1), 36);
        bench.alter(3, 5, 0);
        DUE.is("26: it must COST less", bench.why(0, 7, 0, 1), 50);
        DUE.is("26: just less", bench.why(0, 7, 999, 1000), 50);
        DUE.is("26: none", bench.why(0, 7, 1, 1), -1);
        DUE.is("26: none, so it is of LEAST", bench.best(0, 1, 1, 0), 7);
        bench.alter(1, 6, 0);
        DUE.is("26: the dearest one", bench.why(0, 7, 1, 1), 37);
        DUE.is("26: another CHOICE", bench.why(0, 19, 1, 1), 37);
        DUE.is("26: LINE 0 is the first", bench.why(0, 14, 1, 1), 1);
        DUE.is("26: no CHOICE", bench.why(0, 3, 1, 1), -2);
        DUE.is("26: no CHOICE", bench.why(0, -1, 1, 1), -2);
        DUE.is("26: no PRICE", bench.why(0, 7, 0, 0), -2);
        DUE.is("26: no PRICE", bench.why(0, 7, -10001, 1), -2);
        DUE.is("26: no such OFFER", bench.why(1, 7, 0, 1), -2);
        bench.told();
        bench.tell(1, 7);
        bench.pairing(5);
        bench.way(0, 1);
        DUE.is("26: a TOLD OFFER", bench.why(1, 7, 0, 1), -2);
        DUE.is("26: a PAIRING", bench.why(2, bench.choice(2, 0), 0, 1), -2);
        DUE.is("26: a WAY", bench.why(3, 1, 0, 1), -2);
    }

    /** LINES 0 (from 0 to 1), 1 (1 to 2), 2 (0 to 2) COST 4 + p, 6 and 3 p: all are like at 2, LINES 0 and 2 too. */
    private static void promise26ByPrices() {
        PriceBench bench = NetTest.withThings(3);
        bench.line(0, 1, 4, 1);
        bench.line(1, 2, 6, 0);
        bench.line(0, 2, 0, 3);
        bench.tree();
        int[][] due = {{-10000, 1, 25, -1, 1}, {-3, 1, 25, -1, 1}, {1, 1000, 25, -1, 1}, {1, 2, 25, -1, 1},
            {19, 10, 25, -1, 1}, {1999, 1000, 25, -1, 1}, {2, 1, -1, -1, -1}, {1998, 999, -1, -1, -1},
            {2001, 1000, -1, 14, 2}, {7, 3, -1, 14, 2}, {9, 2, -1, 14, 2}, {10000, 1, -1, 14, 2}, {10000, 999, -1, 14, 2}};
        for (int[] at : due) {
            for (int i = 0; i < 3; i++) {
                int set = new int[] {3, 5, 6}[i];
                DUE.is("26: why(0, " + set + ", " + at[0] + ", " + at[1] + ")", bench.why(0, set, at[0], at[1]), at[2 + i]);
            }
        }
        DUE.is("26: none, so it is of LEAST", bench.least(0, 7, 3, 0), bench.cost(3, 7, 3, 0));
        bench.alter(1, 5, 0);
        DUE.is("26: the dearest one just below 2", bench.why(0, 5, 19, 10), 12);
        DUE.is("26: of like ones the least, at 2", bench.why(0, 5, 2, 1), 12);
        DUE.is("26: the dearest one just above 2", bench.why(0, 5, 21, 10), 14);
    }

    /** "The dearest LINE of that way (of like ones the least)", and only of that way. */
    private static void promise26OnTheWay() {
        PriceBench bench = NetTest.withThings(5);
        bench.line(3, 4, 90, 0);
        bench.line(1, 0, 7, 0);
        bench.line(1, 2, 8, 0);
        bench.line(3, 2, 8, 0);
        bench.line(0, 3, 7, 0);
        bench.tree();
        DUE.is("26: LINE 0 is dear, but not on the way", bench.why(0, 15, 0, 1), 50);
        bench.alter(2, 7, 0);
        DUE.is("26: the dearest one comes later", bench.why(0, 15, 0, 1), 51);
        bench.alter(3, 7, 0);
        DUE.is("26: all of the way are like it", bench.why(0, 15, 0, 1), -1);
        bench.line(4, 3, 89, 0);
        DUE.is("26: a LINE beside another one", bench.why(0, 15, 0, 1), 60);
        bench.alter(5, 90, 0);
        DUE.is("26: a like one beside it", bench.why(0, 15, 0, 1), -1);
        DUE.is("26: from the other one", bench.why(0, 46, 0, 1), -1);
        bench.alter(0, 89, 0);
        DUE.is("26: from the other one", bench.why(0, 46, 0, 1), 5);
    }

    public static void main(String[] args) {
        promise15();
        promise16();
        promise17();
        promise18();
        promise19();
        promise20();
        promise21();
        promise22();
        promise23();
        promise24();
        promise25();
        promise26();
        promise26ByPrices();
        promise26OnTheWay();
        DUE.end();
    }
}
