/** What is empty: no THINGS, LINES, OFFERS, CHOICES, ROWS, a missing SHEET or one of none, a WINDOW of one PRICE. */
public final class EmptyTest {
    private static final Due DUE = new Due("EmptyTest");
    private static final long NO = PriceBench.NO;

    private static void newObject() {
        PriceBench bench = new PriceBench();
        for (int what = 0; what < 5; what++) {
            DUE.is("1: a new object: count(" + what + ")", bench.count(what), 0);
        }
        DUE.is("1: no THINGS: line()", bench.line(0, 1, 0, 0), -2);
        DUE.is("1: no THINGS: way()", bench.way(0, 1), -2);
        DUE.is("1: no THINGS: pairing(1)", bench.pairing(1), -2);
        DUE.is("1: no LINES: alter()", bench.alter(0, 0, 0), -2);
        DUE.is("1: no LINES: close()", bench.close(), -3);
        DUE.is("1: no LINES: lineTold()", bench.lineTold(0, 0), -1);
        DUE.is("1: nothing to undo: undo()", bench.undo(), -3);
        DUE.is("1: no LINES: cost() of one", bench.cost(1, 0, 1, 0), NO);
        DUE.is("1: no LINES: cost() of none, above", bench.cost(0, 7, 3, 0), 0);
        DUE.is("1: no LINES: cost() of none, below", bench.cost(0, 7, 3, 1), 1);
        noOffer(bench, 0);
        DUE.is("1: no ROWS: row()", bench.row(0, 0), NO);
        DUE.is("1: no ROWS: forge()", bench.forge(0, 0, 0), -2);
        DUE.is("1: no TRACE: trace()", bench.trace(0), -1);
        for (int sheet = 0; sheet < 4; sheet++) {
            DUE.is("1: a SHEET is missing: cell()", bench.cell(sheet, 0, 0), -11);
            DUE.is("1: a SHEET is missing: lay()", bench.lay(sheet, 1, 0), -11);
            DUE.is("1: a SHEET is missing: copy()", bench.copy(sheet, 0, sheet, 0, 0), -11);
        }
    }

    private static void noOffer(PriceBench bench, int offer) {
        DUE.is("1: no OFFERS: tell()", bench.tell(offer, 0), -2);
        DUE.is("1: no OFFERS: offerTold()", bench.offerTold(offer, 0), -2);
        DUE.is("1: no OFFERS: choice()", bench.choice(offer, 0), -2);
        DUE.is("1: no OFFERS: best()", bench.best(offer, 0, 1, 0), -2);
        DUE.is("1: no OFFERS: least()", bench.least(offer, 0, 1, 0), NO);
        DUE.is("1: no OFFERS: bends()", bench.bends(offer), -2);
        DUE.is("1: no OFFERS: bend()", bench.bend(offer, 0, 0), NO);
        DUE.is("1: no OFFERS: span()", bench.span(offer, 0, 0), NO);
        DUE.is("1: no OFFERS: top()", bench.top(offer, 0), NO);
        DUE.is("1: no OFFERS: ratio()", bench.ratio(offer, 0), NO);
        DUE.is("1: no OFFERS: regret()", bench.regret(offer, 0, 0), NO);
        DUE.is("1: no OFFERS: calm()", bench.calm(offer), -2);
        DUE.is("1: no OFFERS: why()", bench.why(offer, 0, 0, 1), -2);
        DUE.is("1: no OFFERS: write()", bench.write(offer), -2);
        DUE.is("1: no OFFERS: check()", bench.check(offer), -2);
        DUE.is("1: no OFFERS: act()", bench.act(offer, 0, 5), 0);
        DUE.is("1: no OFFERS: taken()", bench.taken(offer, 0), -11);
    }

    private static void noChoices(String about, PriceBench bench, int offer, int bars) {
        DUE.is("13: " + about + ": no CHOICES", bench.offerTold(offer, 1), 0);
        DUE.is("13: " + about + ": BARS", bench.offerTold(offer, 2), bars);
        DUE.is("14: " + about + ": choice()", bench.choice(offer, 0), -1);
        for (int way = 0; way < 3; way++) {
            DUE.is("16: " + about + ": best()", bench.best(offer, 1, 1, way), -1);
        }
        for (int what = 0; what < 5; what++) {
            DUE.is("17: " + about + ": least()", bench.least(offer, 1, 1, what), NO);
            DUE.is("20: " + about + ": bend()", bench.bend(offer, 0, what), NO);
            DUE.is("21: " + about + ": span()", bench.span(offer, 0, what), NO);
            DUE.is("22: " + about + ": top()", bench.top(offer, what), NO);
            DUE.is("23: " + about + ": ratio()", bench.ratio(offer, what), NO);
            DUE.is("24: " + about + ": regret()", bench.regret(offer, 0, what), NO);
        }
        DUE.is("19: " + about + ": bends()", bench.bends(offer), 0);
        DUE.is("25: " + about + ": calm()", bench.calm(offer), -1);
        DUE.is("26: " + about + ": why()", bench.why(offer, 0, 1, 1), -2);
        DUE.is("27: " + about + ": write()", bench.write(offer), 0);
        DUE.is("33: " + about + ": no ROWS", bench.count(3), 0);
        DUE.is("30: " + about + ": check() of no ROWS", bench.check(offer), -1);
        int kind = bench.offerTold(offer, 0);
        DUE.is("38: " + about + ": taken() for its KIND", bench.taken(offer, kind), 0);
        DUE.is("38: " + about + ": taken() for KIND 0", bench.taken(offer, 0), 0);
        int[] asks = {5, 5 ^ 5, 5, (5 ^ 5) + offer};
        DUE.is("31: " + about + ": m is 0", bench.act(offer, 0, 5), asks[kind]);
    }

    private static void offersWithoutChoices() {
        PriceBench bench = new PriceBench();
        bench.told();
        bench.tree();
        noChoices("a TOLD one without SETS", bench, 0, 0);
        noChoices("a TREE without THINGS", bench, 1, 0);
        bench.tell(0, 1);
        noChoices("a TOLD one whose SET is not there", bench, 0, 0);
        bench.thing();
        bench.pairing(0);
        bench.pairing(1);
        noChoices("a PAIRING of one THING, not of the SIDE", bench, 2, 1);
        noChoices("a PAIRING of one THING, of the SIDE", bench, 3, 1);
        bench.thing();
        bench.way(0, 1);
        bench.way(1, 0);
        noChoices("a TREE of two THINGS without LINES", bench, 1, 1);
        noChoices("a PAIRING of two THINGS without LINES", bench, 3, 1);
        noChoices("a WAY without LINES", bench, 4, 1);
        noChoices("the WAY back without LINES", bench, 5, 2);
        bench.line(0, 1, 0, 0);
        noChoices("a WAY against its only LINE", bench, 5, 2);
        DUE.is("13: it has CHOICES, so no BARS: TOLD", bench.offerTold(0, 2), 0);
        DUE.is("13: it has CHOICES, so no BARS: TREE", bench.offerTold(1, 2), 0);
        DUE.is("13: it has CHOICES, so no BARS: PAIRING", bench.offerTold(3, 2), 0);
        DUE.is("13: it has CHOICES, so no BARS: WAY", bench.offerTold(4, 2), 0);
        bench.close();
        noChoices("a TOLD one whose LINE was closed", bench, 0, 0);
        noChoices("a TREE whose LINE was closed", bench, 1, 1);
        noChoices("a PAIRING whose LINE was closed", bench, 3, 1);
        noChoices("a WAY whose LINE was closed", bench, 4, 1);
    }

    /** The empty SET as the only CHOICE: it COSTS 0 at every PRICE. */
    private static void onlyTheEmptySet(String about, PriceBench bench, int offer) {
        DUE.is("13: " + about + ": one CHOICE", bench.offerTold(offer, 1), 1);
        DUE.is("14: " + about + ": the empty SET", bench.choice(offer, 0), 0);
        DUE.is("14: " + about + ": no other one", bench.choice(offer, 1), -1);
        for (int way = 0; way < 3; way++) {
            DUE.is("16: " + about + ": best()", bench.best(offer, -7, 3, way), 0);
        }
        DUE.is("17: " + about + ": least(), above", bench.least(offer, -7, 3, 0), 0);
        DUE.is("17: " + about + ": least(), below", bench.least(offer, -7, 3, 1), 1);
        DUE.is("19: " + about + ": bends()", bench.bends(offer), 0);
        int[] span = {1, 0, 0, 0, 0};
        for (int what = 0; what < 5; what++) {
            DUE.is("21: " + about + ": span(), what " + what, bench.span(offer, 0, what), span[what]);
        }
        int[] top = {0, 1, 0, 1};
        for (int what = 0; what < 4; what++) {
            DUE.is("22: " + about + ": top(), what " + what, bench.top(offer, what), top[what]);
        }
        DUE.is("23: " + about + ": its RISE is not above 0", bench.ratio(offer, 0), NO);
        DUE.is("24: " + about + ": regret(), above", bench.regret(offer, 0, 0), 0);
        DUE.is("24: " + about + ": regret(), below", bench.regret(offer, 0, 1), 1);
        DUE.is("25: " + about + ": calm()", bench.calm(offer), 0);
        DUE.is("26: " + about + ": why()", bench.why(offer, 0, 1, 1), bench.offerTold(offer, 0) == 1 ? -1 : -2);
        DUE.is("30: " + about + ": check() of no ROWS", bench.check(offer), -1);
    }

    private static void theEmptySet() {
        PriceBench bench = new PriceBench();
        bench.told();
        bench.tell(0, 0);
        onlyTheEmptySet("a TOLD empty SET", bench, 0);
        bench.pairing(0);
        onlyTheEmptySet("a PAIRING without THINGS", bench, 1);
        bench.tree();
        bench.thing();
        onlyTheEmptySet("a TREE with one THING", bench, 2);
        DUE.is("6: undo() of the only THING", bench.undo(), 1);
        noChoices("a TREE without THINGS again", bench, 2, 0);
        onlyTheEmptySet("a PAIRING without THINGS again", bench, 1);
    }

    private static void noRows() {
        PriceBench bench = PriceTest.ways();
        for (int what = 0; what < 4; what++) {
            DUE.is("28: no ROWS: row()", bench.row(0, what), NO);
            DUE.is("29: no ROWS: forge()", bench.forge(0, what, 0), -2);
        }
        DUE.is("30: no ROWS, but BENDS", bench.check(0), -3);
        DUE.is("30: no ROWS, no BENDS", bench.check(1), -1);
        DUE.is("27: ROWS come", bench.write(0), 2);
        DUE.is("30: ROWS where there are no CHOICES", bench.check(1), 3);
        DUE.is("27: the ROWS of none go", bench.write(1), 0);
        DUE.is("28: no ROWS: row()", bench.row(0, 0), NO);
        DUE.is("29: no ROWS: forge()", bench.forge(0, 0, 0), -2);
        DUE.is("30: no ROWS, but BENDS", bench.check(0), -3);
    }

    private static void sheets() {
        PriceBench bench = NetTest.withThings(2);
        for (int sort = 0; sort < 3; sort++) {
            DUE.is("34: a SHEET of none", bench.sheet(0, sort, 0), 1);
            DUE.is("35: of none: cell()", bench.cell(0, 0, 1), -12);
            DUE.is("36: of none: lay()", bench.lay(0, sort, 0), -12);
            DUE.is("36: of none, of another sort: lay()", bench.lay(0, (sort + 1) % 3, 0), -13);
            DUE.is("37: of none: copy() of none", bench.copy(0, 0, 0, 0, 0), 0);
            DUE.is("37: of none: copy() of one", bench.copy(0, 0, 0, 0, 1), -12);
            DUE.is("37: of none: copy() of none from 1", bench.copy(0, 1, 0, 0, 0), -12);
            bench.sheet(1, sort, 1);
            DUE.is("37: from one to none", bench.copy(1, 0, 0, 0, 1), -12);
            DUE.is("37: from one to none, of none", bench.copy(1, 1, 0, 0, 0), 0);
            DUE.is("34: it goes missing", bench.sheet(0, -1, 7), 1);
            DUE.is("35: missing: cell()", bench.cell(0, 0, 1), -11);
            DUE.is("36: missing: lay()", bench.lay(0, sort, 0), -11);
            DUE.is("37: missing: copy() from", bench.copy(0, 0, 1, 0, 0), -11);
            DUE.is("37: missing: copy() to", bench.copy(1, 0, 0, 0, 0), -11);
            DUE.is("34: what is missing goes missing", bench.sheet(0, -1, -1), 1);
            DUE.is("35: missing: cell()", bench.cell(0, 0, 1), -11);
        }
    }

    /** PriceTest's ways at the one PRICE p / q: the BENDS, at 4 and 5, are never strictly between both. */
    private static void windowOfOnePrice(int p, int q, int least, int calm, int[] regrets) {
        PriceBench bench = PriceTest.ways();
        bench.write(0);
        String at = "THE WINDOW is " + p + " / " + q + ": ";
        DUE.is("18: " + at + "window()", bench.window(p, q, p, q), 1);
        DUE.is("19: " + at + "bends()", bench.bends(0), 0);
        DUE.is("20: " + at + "bend()", bench.bend(0, 0, 0), NO);
        DUE.is("22: " + at + "TOP, above", bench.top(0, 0), p);
        DUE.is("22: " + at + "TOP, below", bench.top(0, 1), q);
        DUE.is("22: " + at + "LEAST, above", bench.top(0, 2), least);
        DUE.is("22: " + at + "LEAST, below", bench.top(0, 3), q);
        int[] sets = {3, 12, 16};
        for (int i = 0; i < 3; i++) {
            DUE.is("24: " + at + "REGRET of " + sets[i], bench.regret(0, sets[i], 0), regrets[i]);
        }
        DUE.is("25: " + at + "calm(), ABOVE there", bench.calm(0), calm);
        DUE.is("30: " + at + "no PRICE is strictly in it", bench.check(0), 1);
        DUE.is("27: " + at + "write()", bench.write(0), 0);
        DUE.is("30: " + at + "no ROWS", bench.check(0), -1);
        DUE.is("21: " + at + "SPAN goes on as it is", bench.span(0, 3, 1), 4);
    }

    private static void windowsOfOnePrice() {
        windowOfOnePrice(0, 1, 2, 12, new int[] {8, 0, 18});
        windowOfOnePrice(4, 1, 18, 3, new int[] {0, 0, 2});
        windowOfOnePrice(13, 3, 56, 3, new int[] {0, 2, 4});
        windowOfOnePrice(5, 1, 20, 16, new int[] {0, 2, 0});
        windowOfOnePrice(-10000, 1, -39998, 12, new int[] {20008, 0, 40018});
        windowOfOnePrice(10000, 1, 20, 16, new int[] {19990, 39982, 0});
    }

    public static void main(String[] args) {
        newObject();
        offersWithoutChoices();
        theEmptySet();
        noRows();
        sheets();
        windowsOfOnePrice();
        DUE.end();
    }
}
