/** What is full: THINGS, LINES, OFFERS, SETS, SHEETS, and what the fullest NETS answer; the 512th call. */
public final class FullTest {
    private static final Due DUE = new Due("FullTest");

    private static void things() {
        PriceBench bench = new PriceBench();
        for (int i = 0; i < 7; i++) {
            DUE.is("2: thing()", bench.thing(), i);
        }
        DUE.is("2: 7 at most", bench.thing(), -4);
        DUE.is("6: undo() makes room", bench.undo(), 1);
        DUE.is("2: the last one again", bench.thing(), 6);
        DUE.is("2: 7 at most", bench.thing(), -4);
    }

    private static void lines() {
        PriceBench bench = NetTest.withThings(7);
        for (int i = 0; i < 12; i++) {
            DUE.is("3: line()", bench.line(i % 7, (i + 1) % 7, i, -i), i);
        }
        DUE.is("3: 12 at most", bench.line(0, 1, 0, 0), -4);
        DUE.is("5: close() makes room", bench.close(), 11);
        DUE.is("3: the last one again", bench.line(6, 5, 4, 3), 11);
        DUE.is("3: 12 at most", bench.line(0, 1, 0, 0), -4);
        DUE.is("6: undo() makes room", bench.undo(), 1);
        bench.sheet(0, 0, 4);
        bench.cell(0, 1, 1);
        DUE.is("36: the last one by lay()", bench.lay(0, 0, 0), 11);
        DUE.is("36: 12 at most", bench.lay(0, 0, 0), -4);
        DUE.is("4: the last one can be altered", bench.alter(11, 8, 8), 1);
        DUE.is("6: close() of a full NET can be undone", bench.close() + bench.undo(), 12);
        DUE.is("6: as it was", bench.lineTold(11, 2), 8);
        DUE.is("3: it is full again", bench.line(0, 1, 0, 0), -4);
        for (int left = 11; left >= 0; left--) {
            DUE.is("5: close()", bench.close(), left);
        }
        DUE.is("5: there is none", bench.close(), -3);
    }

    /** 10 OFFERS of any KIND, whichever comes last. */
    private static void offers() {
        for (int last = 0; last < 4; last++) {
            PriceBench bench = NetTest.withThings(2);
            for (int i = 0; i < 9; i++) {
                DUE.is("8: an OFFER's number", comes(bench, (i + last) % 4), i);
            }
            DUE.is("8: the tenth one, of KIND " + last, comes(bench, last), 9);
            DUE.is("8: its KIND", bench.offerTold(9, 0), last);
            for (int kind = 0; kind < 4; kind++) {
                DUE.is("8: 10 at most, of KIND " + kind, comes(bench, kind), -4);
            }
            DUE.is("8: there are ten", bench.count(2), 10);
            bench.thing();
            bench.undo();
            DUE.is("6: OFFERS stay, so it is full", bench.told(), -4);
        }
    }

    private static int comes(PriceBench bench, int kind) {
        switch (kind) {
            case 0:
                return bench.told();
            case 1:
                return bench.tree();
            case 2:
                return bench.way(0, 1);
            default:
                return bench.pairing(2);
        }
    }

    private static void sets() {
        PriceBench bench = new PriceBench();
        bench.told();
        bench.told();
        for (int i = 0; i < 8; i++) {
            DUE.is("9: tell()", bench.tell(0, 4095 - i), i + 1);
        }
        DUE.is("9: 8 at most, though none is a CHOICE", bench.tell(0, 0), -4);
        DUE.is("9: it has it, though it is full", bench.tell(0, 4088), -3);
        DUE.is("13: 8 SETS", bench.offerTold(0, 3), 8);
        DUE.is("9: the other OFFER has room", bench.tell(1, 4095), 1);
    }

    private static void sheets() {
        PriceBench bench = NetTest.withThings(2);
        for (int sort = 0; sort < 3; sort++) {
            DUE.is("34: 40 items", bench.sheet(0, sort, 40), 1);
            bench.sheet(1, sort, 40);
            for (int i = 0; i < 40; i++) {
                bench.cell(0, i, i);
            }
            DUE.is("37: all items", bench.copy(0, 0, 1, 0, 40), 40);
            DUE.is("37: the last one", Portrait.item(bench, 1, sort, 39), 39);
            DUE.is("37: the first one", Portrait.item(bench, 1, sort, 0), 0);
            DUE.is("37: one up, within", bench.copy(0, 0, 0, 1, 39), 39);
            DUE.is("37: as they all were before", Portrait.item(bench, 0, sort, 39), 38);
            DUE.is("37: one too many", bench.copy(0, 0, 1, 0, 41), -12);
            bench.sheet(0, sort, 40);
            DUE.is("34: all 0 again", Portrait.item(bench, 0, sort, 39), 0);
        }
    }

    /** CHOICES are unlike, of as many LINES as are due, and each comes behind the one ahead of it in THE ORDER. */
    private static void manyChoices(String about, PriceBench bench, int offer, int many, int linesOfEach) {
        DUE.is("13: " + about + ": how many", bench.offerTold(offer, 1), many);
        int before = -1;
        for (int i = 0; i < many; i++) {
            int set = bench.choice(offer, i);
            DUE.is("14: " + about + ": LINES of CHOICE " + i, Integer.bitCount(set), linesOfEach);
            int unlike = before ^ set;
            DUE.holds("14: " + about + ": CHOICE " + i + " is in THE ORDER",
                    before < 0 || (before & unlike & -unlike) != 0);
            before = set;
        }
        DUE.is("14: " + about + ": behind the last one", bench.choice(offer, many), -1);
    }

    /** The costs of a LINE beside another one are drawn so that CHOICES bend where each of six pairs bends. */
    private static PriceBench ladder() {
        PriceBench bench = NetTest.withThings(7);
        for (int i = 0; i < 6; i++) {
            bench.line(i, i + 1, 0, 7);
            bench.line(i, i + 1, (i + 1) * 3, 4);
        }
        return bench;
    }

    private static void manyOfAll() {
        PriceBench bench = ladder();
        bench.tree();
        bench.way(0, 6);
        manyChoices("six double rungs, TREE", bench, 0, 64, 6);
        manyChoices("six double rungs, WAY", bench, 1, 64, 6);
        for (int offer = 0; offer < 2; offer++) {
            DUE.is("19: a BEND for each rung", bench.bends(offer), 6);
            int below = 1365;
            for (int i = 0; i < 6; i++) {
                DUE.is("20: BEND " + i + ", above", bench.bend(offer, i, 0), i + 1);
                DUE.is("20: BEND " + i + ", below", bench.bend(offer, i, 1), 1);
                DUE.is("20: BEND " + i + ", BELOW", bench.bend(offer, i, 2), below);
                below += 1 << 2 * i;
                DUE.is("20: BEND " + i + ", ABOVE", bench.bend(offer, i, 3), below);
            }
            DUE.is("27: write()", bench.write(offer), 6);
            DUE.is("30: check()", bench.check(offer), -1);
            bench.forge(5, 3, 0);
            DUE.is("30: the last ROW is WRONG", bench.check(offer), 44);
        }
    }

    private static void knownNumbers() {
        PriceBench bench = NetTest.withThings(5);
        for (int a = 0; a < 5; a++) {
            for (int b = a + 1; b < 5; b++) {
                bench.line(a, b, a, b);
            }
        }
        bench.tree();
        manyChoices("all LINES between 5 THINGS, TREE", bench, 0, 125, 4);
        bench = NetTest.withThings(6);
        for (int i = 0; i < 9; i++) {
            bench.line(i % 3, 3 + i / 3, i, 1);
        }
        bench.pairing(7);
        bench.pairing(56);
        bench.tree();
        manyChoices("3 THINGS with 3, PAIRING", bench, 0, 6, 3);
        manyChoices("3 THINGS with 3, PAIRING of the other SIDE", bench, 1, 6, 3);
        manyChoices("3 THINGS with 3, TREE", bench, 2, 81, 5);
        bench = NetTest.withLines(12);
        bench.tree();
        bench.way(0, 1);
        bench.pairing(2);
        for (int offer = 0; offer < 3; offer++) {
            manyChoices("12 LINES beside one another, OFFER " + offer, bench, offer, 12, 1);
        }
        bench = NetTest.withThings(4);
        for (int i = 0; i < 12; i++) {
            bench.line(i / 3, (i / 3 + 1 + i % 3) % 4, 0, 0);
        }
        bench.way(3, 0);
        DUE.is("13: all LINES between 4 THINGS, WAY", bench.offerTold(0, 1), 5);
    }

    /** The steepest of all NETS: 12 LINES of START and RISE at their ends, at the PRICES at their ends. */
    private static void steepest() {
        PriceBench bench = NetTest.withThings(2);
        for (int i = 0; i < 12; i++) {
            bench.line(0, 1, i < 6 ? 100 : -100, i < 6 ? 20 : -20);
        }
        DUE.is("15: far up", bench.cost(63, 10000, 1, 0), 1200600);
        DUE.is("15: far down", bench.cost(4032, 10000, 1, 0), -1200600);
        DUE.is("15: far down", bench.cost(63, -10000, 1, 0), -1199400);
        DUE.is("15: by 999", bench.cost(63, 9998, 999, 0), 600 * 999 + 120 * 9998 - (600 * 999 + 120 * 9998) * 2 / 3);
        DUE.is("15: by 999", bench.cost(63, 9998, 999, 1), 333);
        bench.told();
        bench.tell(0, 63);
        bench.tell(0, 4032);
        bench.window(-9999, 991, 9999, 997);
        DUE.is("24: REGRET over the WINDOW's end, above", bench.regret(0, 63, 0), 1200L * 997 + 240L * 9999);
        DUE.is("24: REGRET over the WINDOW's end, below", bench.regret(0, 63, 1), 997);
        DUE.is("24: REGRET over its beginning, above", bench.regret(0, 4032, 0), 240L * 9999 - 1200L * 991);
        DUE.is("24: REGRET over its beginning, below", bench.regret(0, 4032, 1), 991);
        DUE.is("22: TOP is where both meet, above", bench.top(0, 0), -5);
        DUE.is("22: TOP is where both meet, below", bench.top(0, 1), 1);
        DUE.is("22: LEAST there", bench.top(0, 2), 0);
        DUE.is("25: calm()", bench.calm(0), 4032);
    }

    /** The 512th call still answers, whatever came before it. */
    private static void theLastCall() {
        PriceBench bench = ladder();
        bench.tree();
        int calls = 7 + 12 + 1;
        while (calls < 511) {
            calls++;
            switch (calls % 5) {
                case 2:
                    bench.alter(calls % 12, calls % 100, calls % 20);
                    break;
                case 3:
                    bench.undo();
                    break;
                case 4:
                    bench.write(0);
                    break;
                case 0:
                    bench.window(0, 1, calls, 1);
                    break;
                default:
                    bench.act(0, 2, calls);
                    break;
            }
        }
        DUE.is("the 512th call", bench.bends(0), 6);
    }

    public static void main(String[] args) {
        things();
        lines();
        offers();
        sets();
        sheets();
        manyOfAll();
        knownNumbers();
        steepest();
        theLastCall();
        DUE.end();
    }
}
