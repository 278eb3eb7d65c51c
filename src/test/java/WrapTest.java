/** What wraps around: x of an ACT and all that comes of it, a byte's lowest 8 bits, a long's lowest 32; what doesn't. */
public final class WrapTest {
    private static final Due DUE = new Due("WrapTest");
    private static final int MIN = Integer.MIN_VALUE;
    private static final int MAX = Integer.MAX_VALUE;

    /** What an ACT answers, without bounds and then cut to 32 bits; m CHOICES of OFFER n. */
    private static int due(int kind, int act, long x, long m, long n) {
        long asks = asks(kind, x, m, n);
        long shows = shows(kind, x, m, n);
        if (act < 2) {
            return (int) (act == 0 ? asks : shows);
        }
        long turns = shows - asks(kind, x + n, m, n);
        return (int) (kind == 1 || kind == 3 ? turns + asks(kind, 0, m, n) : turns);
    }

    private static long asks(int kind, long x, long m, long n) {
        long told = x + m;
        return kind == 1 ? told ^ 5 : kind == 3 ? (told ^ 5) + n : told;
    }

    private static long shows(int kind, long x, long m, long n) {
        if (kind == 2) {
            return 3 * asks(kind, x - 1, m, n) * 2;
        }
        long shows = 3 * asks(kind, x, m, n);
        return kind == 3 ? shows - asks(1, x, m, n) : shows;
    }

    private static void acts() {
        PriceBench bench = OfferTest.ring();
        bench.told();
        bench.tell(0, 1);
        bench.tree();
        bench.way(1, 0);
        bench.pairing(5);
        int[] many = {1, 8, 2, 2};
        int third = MAX / 3;
        int[] numbers = {MIN, MIN + 1, MIN + 2, -third - 1, -third, -2, -1, 0, 1, 2, third - 2, third - 1, third,
            third + 1, MAX / 2, MAX / 2 + 1, MAX - 9, MAX - 8, MAX - 7, MAX - 3, MAX - 2, MAX - 1, MAX, 5 ^ MIN, 0x55555555};
        for (int offer = 0; offer < 4; offer++) {
            for (int act = 0; act < 3; act++) {
                for (int x : numbers) {
                    DUE.is("31: act(" + offer + ", " + act + ", " + x + ")",
                            bench.act(offer, act, x), due(offer, act, x, many[offer], offer));
                }
            }
        }
        DUE.is("31: x + m wraps at once", bench.act(0, 0, MAX), MIN);
        DUE.is("31: x - 1 wraps at once", bench.act(2, 1, MIN), (MAX + 2) * 6);
    }

    /** Bytes go from -128 to 127; all that are good for a START show as they are, others are BAD for line(). */
    private static void bytes() {
        PriceBench bench = NetTest.withThings(2);
        int calls = 0;
        for (int v = -300; v <= 300; v++) {
            if (calls % 40 == 0) {
                bench = NetTest.withThings(2);
                bench.sheet(0, 0, 1);
            }
            calls++;
            DUE.is("35: cell() of a byte", bench.cell(0, 0, v), 1);
            int kept = Math.floorMod(v + 128, 256) - 128;
            DUE.is("35: the lowest 8 bits of " + v, Portrait.item(bench, 0, 0, 0),
                    kept >= -100 && kept <= 100 ? kept : -1002);
        }
        int[][] far = {{MAX, -1}, {MIN, 0}, {MIN + 77, 77}, {MAX - 76, -77}, {65536 + 9, 9}, {-65536 - 9, -9}};
        bench = NetTest.withThings(2);
        bench.sheet(0, 0, 1);
        for (int[] pair : far) {
            bench.cell(0, 0, pair[0]);
            DUE.is("35: the lowest 8 bits of " + pair[0], Portrait.item(bench, 0, 0, 0), pair[1]);
        }
    }

    /** Ints and longs keep all bits of v: what is good for a START only by its lowest 8 or 16 bits is BAD. */
    private static void intsAndLongs() {
        for (int sort = 1; sort < 3; sort++) {
            PriceBench bench = NetTest.withThings(2);
            bench.sheet(0, sort, 1);
            for (int v : new int[] {256, -256, 65536, -65536, 1 << 24, MIN, MAX, 101, -101, 200, 1 << 31 | 5}) {
                bench.cell(0, 0, v);
                DUE.is("35: of sort " + sort + " all bits of " + v, Portrait.item(bench, 0, sort, 0), -1002);
            }
            for (int v : new int[] {-100, -1, 0, 1, 100}) {
                bench.cell(0, 0, v);
                DUE.is("36: of sort " + sort + " as an int " + v, Portrait.item(bench, 0, sort, 0), v);
            }
        }
    }

    /** A copy of bytes, ints or longs keeps each item as it is. */
    private static void copies() {
        for (int sort = 0; sort < 3; sort++) {
            PriceBench bench = NetTest.withThings(2);
            bench.sheet(0, sort, 3);
            bench.sheet(3, sort, 3);
            int[] items = {-100, 100, -1};
            for (int i = 0; i < 3; i++) {
                bench.cell(0, i, items[i]);
            }
            DUE.is("37: copy() of sort " + sort, bench.copy(0, 0, 3, 0, 3), 3);
            for (int i = 0; i < 3; i++) {
                DUE.is("37: item " + i + " of sort " + sort, Portrait.item(bench, 3, sort, i), items[i]);
            }
        }
    }

    /** Sums and products that leave 32 bits are right all the same. */
    private static void fractionsDoNotWrap() {
        PriceBench bench = NetTest.withThings(2);
        for (int i = 0; i < 12; i++) {
            bench.line(0, 1, i % 2 == 0 ? 100 : 99, i % 2 == 0 ? 20 : 19);
        }
        bench.told();
        bench.tell(0, 4095);
        bench.tell(0, 1365);
        bench.window(9967, 997, 9973, 991);
        DUE.is("22: TOP is the last PRICE, above", bench.top(0, 0), 9973);
        DUE.is("22: TOP is the last PRICE, below", bench.top(0, 1), 991);
        DUE.is("22: LEAST there, above", bench.top(0, 2), 600L * 991 + 120L * 9973);
        DUE.is("24: REGRET, above", bench.regret(0, 4095, 0), 594L * 991 + 114L * 9973);
        DUE.is("24: REGRET, below", bench.regret(0, 4095, 1), 991);
        DUE.is("18: a second PRICE that is less by a little", bench.window(9967, 997, 9957, 997), -2);
        DUE.is("18: a second PRICE that is less by a little", bench.window(9973, 998, 9963, 997), -2);
        DUE.is("18: a second PRICE that is more by a little", bench.window(9963, 997, 9973, 998), 1);
    }

    /** THE WINDOW's order is by both numbers: neighbours far out, and what is under 0. */
    private static void neighbours() {
        PriceBench bench = new PriceBench();
        int[][] rising = {{-10000, 1}, {-9999, 1}, {-10000, 999}, {-9999, 999}, {-9999, 1000}, {-1, 999}, {-1, 1000},
            {0, 7}, {1, 1000}, {1, 999}, {9999, 1000}, {9999, 999}, {10000, 999}, {9999, 1}, {10000, 1}};
        for (int i = 0; i < rising.length; i++) {
            for (int j = 0; j < rising.length; j++) {
                DUE.is("18: " + i + " to " + j, bench.window(rising[i][0], rising[i][1], rising[j][0], rising[j][1]),
                        i <= j ? 1 : -2);
            }
        }
    }

    public static void main(String[] args) {
        acts();
        bytes();
        intsAndLongs();
        copies();
        fractionsDoNotWrap();
        neighbours();
        DUE.end();
    }
}
