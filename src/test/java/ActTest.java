/** Promises 31 to 33: ACTS, THE TRACE, counts. */
public final class ActTest {
    private static final Due DUE = new Due("ActTest");

    /** OFFERS 0 TREE (8 CHOICES), 1 TOLD (1), 2 WAY (2), 3 PAIRING (2). */
    private static PriceBench kinds() {
        PriceBench bench = OfferTest.ring();
        bench.tree();
        bench.told();
        bench.way(1, 0);
        bench.pairing(5);
        bench.tell(1, 31);
        return bench;
    }

    private static void acts(PriceBench bench, int offer, int act, int x, int due, int... trace) {
        String call = "act(" + offer + ", " + act + ", " + x + ")";
        DUE.is("31: " + call, bench.act(offer, act, x), due);
        DUE.is("33: bodies of " + call, bench.count(4), trace.length);
        for (int i = 0; i < trace.length; i++) {
            DUE.is("32: trace(" + i + ") of " + call, bench.trace(i), trace[i]);
        }
        DUE.is("32: behind the last one", bench.trace(trace.length), -1);
        DUE.is("32: ahead of the first one", bench.trace(-1), -1);
    }

    private static void promises31And32() {
        PriceBench bench = kinds();
        acts(bench, 1, 0, 5, 6, 10);
        acts(bench, 1, 1, 5, 18, 11, 10);
        acts(bench, 1, 2, 5, 11, 12, 11, 10, 10);
        acts(bench, 0, 0, 5, 8, 20, 10);
        acts(bench, 0, 1, 5, 24, 11, 20, 10);
        acts(bench, 0, 2, 5, 29, 21, 12, 11, 20, 10, 20, 10, 20, 10);
        acts(bench, 2, 0, 5, 7, 10);
        acts(bench, 2, 1, 5, 36, 30, 11, 10);
        acts(bench, 2, 2, 5, 27, 12, 30, 11, 10, 10);
        acts(bench, 3, 0, 5, 5, 40, 20, 10);
        acts(bench, 3, 1, 5, 13, 41, 11, 40, 20, 10, 20, 10);
        acts(bench, 3, 2, 5, 5, 21, 12, 41, 11, 40, 20, 10, 20, 10, 40, 20, 10, 40, 20, 10);
        acts(bench, 1, 0, Integer.MAX_VALUE, Integer.MIN_VALUE, 10);
        acts(bench, 1, 1, 1 << 30, 3 - (1 << 30), 11, 10);
        acts(bench, 2, 1, Integer.MIN_VALUE, 6, 30, 11, 10);
        bench.close();
        acts(bench, 0, 0, 5, 12, 20, 10);
    }

    private static void refusals() {
        PriceBench bench = kinds();
        int[][] refused = {{4, 0}, {-1, 0}, {0, 3}, {0, -1}};
        for (int[] call : refused) {
            bench.act(3, 2, 9);
            DUE.is("32: THE TRACE of the latest act()", bench.trace(14), 10);
            bench.check(0);
            bench.thing();
            DUE.is("32: other calls leave it", bench.count(4), 15);
            acts(bench, call[0], call[1], 7, 0);
        }
        DUE.is("32: far away", bench.trace(Integer.MAX_VALUE), -1);
        DUE.is("32: far away", bench.trace(Integer.MIN_VALUE), -1);
    }

    private static void promise33() {
        PriceBench bench = kinds();
        bench.thing();
        bench.close();
        bench.told();
        bench.tell(4, 1);
        bench.tell(4, 2);
        bench.alter(0, 1, 2);
        bench.alter(1, 2, 1);
        bench.window(-1, 1, 10, 1);
        bench.write(4);
        bench.act(0, 1, 0);
        int[] due = {5, 4, 5, 1, 3};
        for (int what = 0; what < 5; what++) {
            DUE.is("33: count(" + what + ")", bench.count(what), due[what]);
        }
        bench.alter(1, 2, 2);
        DUE.is("33: ROWS stay", bench.count(3), 1);
        bench.write(4);
        DUE.is("33: no ROWS", bench.count(3), 0);
        DUE.is("33: what", bench.count(5), -2);
        DUE.is("33: what", bench.count(-1), -2);
    }

    public static void main(String[] args) {
        promises31And32();
        refusals();
        promise33();
        DUE.end();
    }
}
