/** Promises 8 to 14 and 38: OFFERS, their CHOICES, and what they are taken for. */
public final class OfferTest {
    private static final Due DUE = new Due("OfferTest");

    /** THINGS 0 to 3 in a ring of LINES 0 to 3, each as it goes, and LINE 4 from THING 2 back to 0. */
    static PriceBench ring() {
        PriceBench bench = NetTest.withThings(4);
        bench.line(0, 1, 1, 1);
        bench.line(1, 2, 2, 1);
        bench.line(2, 3, 3, 1);
        bench.line(3, 0, 4, 1);
        bench.line(2, 0, 5, 1);
        return bench;
    }

    private static void choices(String promise, PriceBench bench, int offer, int... sets) {
        DUE.is(promise + ": how many", bench.offerTold(offer, 1), sets.length);
        for (int i = 0; i < sets.length; i++) {
            DUE.is(promise + ": choice " + i, bench.choice(offer, i), sets[i]);
        }
        DUE.is(promise + ": behind the last one", bench.choice(offer, sets.length), -1);
        DUE.is(promise + ": ahead of the first one", bench.choice(offer, -1), -1);
    }

    private static void promise8() {
        PriceBench bench = new PriceBench();
        for (int i = 0; i < 10; i++) {
            DUE.is("8: told()", bench.told(), i);
        }
        DUE.is("8: an eleventh", bench.told(), -4);
        DUE.is("8: its KIND", bench.offerTold(9, 0), 0);
        DUE.is("8: without SETS", bench.offerTold(9, 3), 0);
        DUE.is("10: FULL", bench.tree(), -4);
        DUE.is("11: BAD ahead of FULL", bench.way(0, 1), -2);
        DUE.is("12: FULL", bench.pairing(0), -4);
        DUE.is("12: BAD ahead of FULL", bench.pairing(1), -2);
        bench.thing();
        bench.thing();
        DUE.is("11: FULL", bench.way(0, 1), -4);
    }

    private static void promise9() {
        PriceBench bench = ring();
        bench.tree();
        bench.told();
        DUE.is("9: another KIND", bench.tell(0, 1), -2);
        DUE.is("9: no such OFFER", bench.tell(2, 1), -2);
        DUE.is("9: no such OFFER", bench.tell(-1, 1), -2);
        DUE.is("9: no SET", bench.tell(1, -1), -2);
        DUE.is("9: no SET", bench.tell(1, 4096), -2);
        DUE.is("9: the last SET", bench.tell(1, 4095), 1);
        DUE.is("9: it has it", bench.tell(1, 4095), -3);
        int[] sets = {32, 1, 31, 0, 2, 3, 6};
        for (int i = 0; i < sets.length; i++) {
            DUE.is("9: tell()", bench.tell(1, sets[i]), i + 2);
        }
        DUE.is("9: a ninth", bench.tell(1, 7), -4);
        DUE.is("9: it has it, ahead of FULL", bench.tell(1, 6), -3);
        DUE.is("9: BAD ahead of FULL", bench.tell(1, 4096), -2);
        DUE.is("9: how many SETS", bench.offerTold(1, 3), 8);
        choices("9", bench, 1, 31, 3, 1, 6, 2, 0);
        bench.line(0, 1, 0, 0);
        choices("9: with LINE 5", bench, 1, 31, 3, 1, 6, 2, 32, 0);
        bench.close();
        bench.close();
        choices("9: without LINE 4", bench, 1, 3, 1, 6, 2, 0);
    }

    private static void promise10() {
        PriceBench bench = new PriceBench();
        DUE.is("10: tree()", bench.tree(), 0);
        choices("10: without THINGS", bench, 0);
        DUE.is("10: BARS without THINGS", bench.offerTold(0, 2), 0);
        bench.thing();
        choices("10: one THING", bench, 0, 0);
        bench.thing();
        choices("10: two that do not hang together", bench, 0);
        bench.line(1, 0, 0, 0);
        bench.line(0, 1, 0, 0);
        choices("10: two LINES beside one another", bench, 0, 1, 2);
        bench = ring();
        bench.tree();
        choices("10", bench, 0, 7, 11, 13, 21, 25, 14, 22, 26);
        bench.close();
        choices("10: behind a change", bench, 0, 7, 11, 13, 14);
    }

    private static void promise11() {
        PriceBench bench = ring();
        DUE.is("11: way()", bench.way(0, 3), 0);
        DUE.is("11: way()", bench.way(1, 0), 1);
        DUE.is("11: a = b", bench.way(2, 2), -2);
        DUE.is("11: no such THING", bench.way(4, 0), -2);
        DUE.is("11: no such THING", bench.way(0, 4), -2);
        DUE.is("11: no such THING", bench.way(-1, 0), -2);
        DUE.is("11: no such THING", bench.way(0, -1), -2);
        choices("11", bench, 0, 7);
        choices("11", bench, 1, 14, 18);
        bench.line(0, 2, 0, 0);
        choices("11: THE ORDER", bench, 0, 7, 36);
        bench.line(0, 3, 0, 0);
        bench.line(0, 3, 0, 0);
        choices("11: LINES beside one another", bench, 0, 7, 36, 64, 128);
    }

    private static void promise12() {
        PriceBench bench = new PriceBench();
        DUE.is("12: BAD", bench.pairing(1), -2);
        DUE.is("12: BAD", bench.pairing(-1), -2);
        DUE.is("12: without THINGS", bench.pairing(0), 0);
        choices("12: without THINGS", bench, 0, 0);
        bench = ring();
        DUE.is("12: BAD", bench.pairing(16), -2);
        DUE.is("12: BAD", bench.pairing(Integer.MIN_VALUE), -2);
        DUE.is("12: pairing()", bench.pairing(5), 0);
        choices("12: the ring's two", bench, 0, 5, 10);
        bench.pairing(3);
        choices("12: only LINES that leave the SIDE", bench, 1, 10);
        bench.pairing(6);
        choices("12: only LINES that leave the SIDE", bench, 2, 5);
        bench.line(3, 0, 9, 9);
        choices("12: LINES beside one another", bench, 0, 5, 10, 34);
        DUE.is("12: all THINGS", bench.pairing(15), 3);
        choices("12: all THINGS", bench, 3);
    }

    private static void promise13() {
        PriceBench bench = ring();
        bench.told();
        bench.tree();
        bench.way(2, 3);
        bench.pairing(10);
        int[][] told = {{0, 0, 0, 0, 0}, {1, 8, 0, 0, 0}, {2, 1, 0, 2, 3}, {3, 2, 0, 10, 0}};
        for (int offer = 0; offer < told.length; offer++) {
            for (int what = 0; what < 5; what++) {
                DUE.is("13: offerTold(" + offer + ", " + what + ")", bench.offerTold(offer, what), told[offer][what]);
            }
            DUE.is("13: what", bench.offerTold(offer, 5), -2);
            DUE.is("13: what", bench.offerTold(offer, -1), -2);
        }
        DUE.is("13: no such OFFER", bench.offerTold(4, 0), -2);
        DUE.is("13: no such OFFER", bench.offerTold(-1, 0), -2);
        bench.tell(0, 9);
        DUE.is("13: SETS of a TOLD one", bench.offerTold(0, 3), 1);
    }

    private static void promise13Bars() {
        PriceBench bench = NetTest.withThings(6);
        bench.tree();
        bench.way(3, 5);
        bench.pairing(15);
        bench.pairing(1);
        bench.pairing(7);
        DUE.is("13: BARS of a TREE", bench.offerTold(0, 2), 1);
        DUE.is("13: BARS of a WAY", bench.offerTold(1, 2), 8);
        DUE.is("13: BARS: more in the SIDE", bench.offerTold(2, 2), 15);
        DUE.is("13: BARS: fewer in the SIDE", bench.offerTold(3, 2), 62);
        DUE.is("13: BARS: as many in the SIDE", bench.offerTold(4, 2), 1);
        bench.line(4, 0, 0, 0);
        bench.line(1, 4, 0, 0);
        bench.line(5, 2, 0, 0);
        bench.line(3, 1, 0, 0);
        DUE.is("13: BARS of a TREE go either way", bench.offerTold(0, 2), 27);
        DUE.is("13: BARS of a WAY go as LINES do", bench.offerTold(1, 2), 27);
        DUE.is("13: with LINE 3 there is a CHOICE", bench.offerTold(4, 1), 1);
        bench.close();
        DUE.is("13: BARS: two have one beside them", bench.offerTold(4, 2), 3);
        bench.line(0, 1, 0, 0);
        DUE.is("13: BARS: LINES within the SIDE do not count", bench.offerTold(4, 2), 3);
        bench.told();
        DUE.is("13: BARS of a TOLD one", bench.offerTold(5, 2), 0);
        bench = NetTest.withThings(2);
        bench.pairing(0);
        DUE.is("13: BARS of the empty SIDE", bench.offerTold(0, 2), 3);
        bench = NetTest.withThings(3);
        bench.pairing(6);
        bench.pairing(2);
        DUE.is("13: BARS: one more in the SIDE", bench.offerTold(0, 2), 6);
        DUE.is("13: BARS: one fewer in the SIDE", bench.offerTold(1, 2), 5);
    }

    private static void promise14() {
        PriceBench bench = ring();
        bench.told();
        DUE.is("14: no CHOICE", bench.choice(0, 0), -1);
        DUE.is("14: no such OFFER", bench.choice(1, 0), -2);
        DUE.is("14: no such OFFER", bench.choice(-1, -1), -2);
        bench.tell(0, 16);
        bench.tell(0, 6);
        bench.tell(0, 5);
        bench.tell(0, 7);
        choices("14: THE ORDER, not as told", bench, 0, 7, 5, 6, 16);
        DUE.is("14: far away", bench.choice(0, Integer.MAX_VALUE), -1);
        DUE.is("14: far away", bench.choice(0, Integer.MIN_VALUE), -1);
    }

    private static void promise38() {
        PriceBench bench = ring();
        bench.told();
        bench.tree();
        bench.way(1, 0);
        bench.pairing(5);
        bench.tell(0, 31);
        int no = -13;
        int[][] due = {{1, no, no, no}, {8, 8, no, no}, {2, no, 2, no}, {2, 2, no, 2}};
        for (int offer = 0; offer < 4; offer++) {
            for (int kind = 0; kind < 4; kind++) {
                DUE.is("38: taken(" + offer + ", " + kind + ")", bench.taken(offer, kind), due[offer][kind]);
            }
        }
        DUE.is("38: no such OFFER", bench.taken(4, 0), -11);
        DUE.is("38: no such OFFER", bench.taken(-1, 3), -11);
        DUE.is("38: no such KIND", bench.taken(0, 4), -2);
        DUE.is("38: no such KIND, ahead of no such OFFER", bench.taken(9, -1), -2);
    }

    public static void main(String[] args) {
        promise8();
        promise9();
        promise10();
        promise11();
        promise12();
        promise13();
        promise13Bars();
        promise14();
        promise38();
        DUE.end();
    }
}
