import java.util.function.Consumer;

/** The sentences under "Terms": the NET and its OFFERS, and what they answer at PRICES, over THE WINDOW and as BARS. */
public final class TermsTest {
    private static final Due DUE = new Due("TermsTest");
    private static final long NO = PriceBench.NO;

    private static void choices(String about, PriceBench bench, int offer, int... sets) {
        DUE.is(about + ": how many", bench.offerTold(offer, 1), sets.length);
        for (int i = 0; i < sets.length; i++) {
            DUE.is(about + ": CHOICE " + i, bench.choice(offer, i), sets[i]);
        }
    }

    private static void fraction(String about, long above, long below, long dueAbove, long dueBelow) {
        DUE.is(about + ", above the line", above, dueAbove);
        DUE.is(about + ", below the line", below, dueBelow);
    }

    // 1: A NET

    /** "A LINE goes from a THING to another one (TREES and PAIRINGS do not ask which way)". */
    private static void whichWay() {
        for (int turned = 0; turned < 16; turned++) {
            PriceBench bench = NetTest.withThings(4);
            int[][] ends = {{0, 1}, {1, 2}, {2, 3}, {3, 0}};
            for (int i = 0; i < 4; i++) {
                boolean turn = (turned >> i & 1) != 0;
                bench.line(ends[i][turn ? 1 : 0], ends[i][turn ? 0 : 1], 0, 0);
            }
            bench.tree();
            bench.pairing(5);
            bench.way(0, 2);
            choices("a TREE, turned " + turned, bench, 0, 7, 11, 13, 14);
            choices("a PAIRING, turned " + turned, bench, 1, 5, 10);
            int ways = ((turned & 3) == 0 ? 1 : 0) + ((turned & 12) == 12 ? 1 : 0);
            DUE.is("a WAY, turned " + turned, bench.offerTold(2, 1), ways);
        }
    }

    /** "At a PRICE it COSTS START and RISE times the PRICE"; a SET's are "the sums of those of its LINES". */
    private static void costs() {
        PriceBench bench = NetTest.withThings(2);
        bench.line(0, 1, 7, -3);
        bench.line(1, 0, -10, 4);
        bench.line(0, 1, 1, 0);
        fraction("LINE 0 at 5/2", bench.cost(1, 5, 2, 0), bench.cost(1, 5, 2, 1), -1, 2);
        fraction("LINE 1 at 5/2", bench.cost(2, 5, 2, 0), bench.cost(2, 5, 2, 1), 0, 1);
        fraction("LINE 2 at 5/2", bench.cost(4, 5, 2, 0), bench.cost(4, 5, 2, 1), 1, 1);
        fraction("all at 5/2", bench.cost(7, 5, 2, 0), bench.cost(7, 5, 2, 1), 1, 2);
        fraction("LINE 0 at -1/3", bench.cost(1, -1, 3, 0), bench.cost(1, -1, 3, 1), 8, 1);
        fraction("all at -1/3", bench.cost(7, -1, 3, 0), bench.cost(7, -1, 3, 1), -7, 3);
        fraction("all at -2/6", bench.cost(7, -2, 6, 0), bench.cost(7, -2, 6, 1), -7, 3);
        fraction("all at 0/9", bench.cost(7, 0, 9, 0), bench.cost(7, 0, 9, 1), -2, 1);
    }

    /** "THE ORDER: of two the one comes first that has the least LINE in which they differ". */
    private static void theOrder() {
        int[] inOrder = {15, 7, 11, 3, 13, 5, 9, 1, 14, 6, 10, 2, 12, 4, 8, 0};
        PriceBench bench = NetTest.withLines(4);
        for (int a = 0; a < 16; a++) {
            if (a % 10 == 0) {
                bench = NetTest.withLines(4);
            }
            bench.told();
            int offer = a % 10;
            for (int i = 7; i >= 0; i--) {
                bench.tell(offer, inOrder[(a + 3 * i) % 16]);
            }
            int before = -1;
            for (int i = 0; i < 8; i++) {
                int at = indexOf(inOrder, bench.choice(offer, i));
                DUE.holds("SETS told from " + a + " on come in THE ORDER", at > before);
                before = at;
            }
        }
    }

    private static int indexOf(int[] numbers, int number) {
        for (int i = 0; i < numbers.length; i++) {
            if (numbers[i] == number) {
                return i;
            }
        }
        return -1;
    }

    /** "FRACTIONS are told in lowest terms, below the line above 0": each call that tells one. */
    private static void lowestTerms() {
        PriceBench bench = PriceTest.lines(-10, 8, -5, 2, -100, 20);
        bench.close();
        bench.window(-4, 6, 21, 9);
        fraction("cost()", bench.cost(1, 2, 8, 0), bench.cost(1, 2, 8, 1), -8, 1);
        fraction("least()", bench.least(0, 3, 6, 0), bench.least(0, 3, 6, 1), -6, 1);
        fraction("least(), below 0", bench.least(0, -2, 12, 0), bench.least(0, -2, 12, 1), -34, 3);
        fraction("bend()", bench.bend(0, 0, 0), bench.bend(0, 0, 1), 5, 6);
        fraction("span(), to", bench.span(0, 1, 3), bench.span(0, 1, 4), 5, 6);
        fraction("span(), from", bench.span(0, 2, 1), bench.span(0, 2, 2), 5, 6);
        fraction("top(), its PRICE", bench.top(0, 0), bench.top(0, 1), 7, 3);
        fraction("top(), LEAST", bench.top(0, 2), bench.top(0, 3), -1, 3);
        fraction("ratio()", bench.ratio(0, 0), bench.ratio(0, 1), -5, 2);
        fraction("regret()", bench.regret(0, 2, 0), bench.regret(0, 2, 1), 9, 1);
        fraction("regret()", bench.regret(0, 1, 0), bench.regret(0, 1, 1), 9, 1);
        bench.window(-1, 4, -1, 4);
        fraction("regret()", bench.regret(0, 2, 0), bench.regret(0, 2, 1), 13, 2);
        DUE.is("write()", bench.write(0), 0);
        bench.window(-1, 1, 5, 1);
        bench.write(0);
        fraction("row()", bench.row(0, 0), bench.row(0, 1), 5, 6);
        bench.alter(0, 10, 8);
        fraction("bend(), below 0: not in THE WINDOW", bench.bend(0, 0, 0), bench.bend(0, 0, 1), NO, NO);
        bench.window(-5, 1, 5, 1);
        fraction("bend(), below 0", bench.bend(0, 0, 0), bench.bend(0, 0, 1), -5, 2);
        fraction("span(), below 0", bench.span(0, 1, 3), bench.span(0, 1, 4), -5, 2);
        fraction("span(), below 0", bench.span(0, 2, 1), bench.span(0, 2, 2), -5, 2);
    }

    /** "Of these those are CHOICES that have no LINE that is not there", as LINES come and go. */
    private static void toldOnes() {
        PriceBench bench = NetTest.withThings(2);
        bench.told();
        for (int set : new int[] {4095, 2, 3, 1, 0, 5, 4}) {
            bench.tell(0, set);
        }
        int[][] due = {{0}, {1, 0}, {3, 1, 2, 0}, {3, 5, 1, 2, 4, 0}, {3, 5, 1, 2, 4, 0}};
        for (int lines = 0; lines < due.length; lines++) {
            choices("TOLD with " + lines + " LINES", bench, 0, due[lines]);
            DUE.is("all SETS stay told", bench.offerTold(0, 3), 7);
            bench.line(0, 1, 0, 0);
        }
        for (int lines = 5; lines < 12; lines++) {
            bench.line(0, 1, 0, 0);
        }
        choices("TOLD with 12 LINES", bench, 0, 4095, 3, 5, 1, 2, 4, 0);
    }

    /** "LINES by which all THINGS hang together, none of which could be left out for that". */
    private static void trees() {
        PriceBench bench = NetTest.withThings(7);
        bench.tree();
        int[][] ends = {{5, 6}, {1, 0}, {2, 1}, {4, 5}, {3, 2}};
        for (int[] line : ends) {
            bench.line(line[0], line[1], 0, 0);
            DUE.is("a TREE of THINGS that do not hang together", bench.offerTold(0, 1), 0);
        }
        DUE.is("BARS: what hangs together with THING 0", bench.offerTold(0, 2), 15);
        bench.line(6, 3, 0, 0);
        choices("a TREE, the last LINE joins both parts", bench, 0, 63);
        bench.line(0, 4, 0, 0);
        choices("a TREE, a ring of 7", bench, 0, 63, 95, 111, 119, 123, 125, 126);
        bench.line(0, 1, 0, 0);
        DUE.is("a TREE, one LINE of the ring twice", bench.offerTold(0, 1), 13);
        bench.undo();
        bench.close();
        bench.close();
        DUE.is("BARS again", bench.offerTold(0, 2), 15);
        bench.close();
        DUE.is("BARS of less", bench.offerTold(0, 2), 7);
    }

    /** "LINES that lead from a told THING to another one, each as it goes, no THING twice". */
    private static void ways() {
        PriceBench bench = NetTest.withThings(4);
        bench.line(0, 1, 0, 0);
        bench.line(1, 0, 0, 0);
        bench.line(1, 2, 0, 0);
        bench.line(2, 1, 0, 0);
        bench.line(2, 3, 0, 0);
        bench.line(3, 1, 0, 0);
        bench.line(1, 3, 0, 0);
        bench.line(3, 0, 0, 0);
        bench.way(0, 3);
        bench.way(3, 0);
        bench.way(2, 0);
        bench.way(1, 2);
        choices("0 to 3", bench, 0, 21, 65);
        choices("3 to 0", bench, 1, 34, 128);
        choices("2 to 0", bench, 2, 10, 50, 200, 144);
        choices("1 to 2", bench, 3, 4);
    }

    /** A way that is as long as THINGS allow: over all seven. */
    private static void theLongestWay() {
        PriceBench bench = NetTest.withThings(7);
        for (int i = 0; i < 6; i++) {
            bench.line(i, i + 1, 0, 0);
        }
        bench.way(0, 6);
        bench.way(0, 5);
        choices("over all THINGS", bench, 0, 63);
        choices("over all but one", bench, 1, 31);
        bench.line(6, 0, 0, 0);
        choices("beyond its end it does not go on", bench, 1, 31);
        bench.way(6, 5);
        choices("from the last THING on", bench, 2, 95);
    }

    /** "LINES between a THING of a told SIDE and one that is not of it, such that each THING there is has just one". */
    private static void pairings() {
        PriceBench bench = NetTest.withThings(4);
        bench.pairing(3);
        bench.line(0, 2, 0, 0);
        bench.line(0, 3, 0, 0);
        bench.line(1, 2, 0, 0);
        bench.line(1, 3, 0, 0);
        bench.line(0, 1, 0, 0);
        bench.line(2, 3, 0, 0);
        choices("SIDE 3", bench, 0, 9, 6);
        bench.pairing(12);
        choices("SIDE 12, the others", bench, 1, 9, 6);
        bench.pairing(5);
        choices("SIDE 5: other LINES are between both", bench, 2, 6, 48);
        bench.pairing(1);
        bench.pairing(0);
        bench.pairing(15);
        for (int offer = 3; offer < 6; offer++) {
            choices("both sides are not as many", bench, offer);
        }
        bench.thing();
        for (int offer = 0; offer < 6; offer++) {
            choices("a THING that has none", bench, offer);
        }
        bench.undo();
        choices("without it", bench, 0, 9, 6);
    }

    /** "Behind any change of THINGS or LINES they are those of the new NET". */
    private static void change(String about, Consumer<PriceBench> change, int[] told, int[] tree, int[] way, int[] pairing) {
        PriceBench bench = NetTest.withThings(2);
        bench.sheet(0, 0, 4);
        bench.cell(0, 0, 1);
        bench.line(0, 1, 1, 1);
        bench.told();
        bench.tell(0, 1);
        bench.tell(0, 2);
        bench.tree();
        bench.way(1, 0);
        bench.pairing(1);
        int[][] before = {{1}, {1}, {}, {1}};
        int[][] behind = {told, tree, way, pairing};
        for (int offer = 0; offer < 4; offer++) {
            choices("before " + about, bench, offer, before[offer]);
        }
        change.accept(bench);
        for (int offer = 0; offer < 4; offer++) {
            choices("behind " + about, bench, offer, behind[offer]);
        }
        if (bench.undo() == 1) {
            for (int offer = 0; offer < 4; offer++) {
                choices("behind the undo() of " + about, bench, offer, before[offer]);
            }
        }
    }

    private static void changes() {
        int[] none = {};
        int[] one = {1};
        int[] both = {1, 2};
        int[] other = {2};
        change("nothing", bench -> bench.alter(0, 1, 1), one, one, none, one);
        change("line()", bench -> bench.line(1, 0, 0, 0), both, both, other, both);
        change("lay()", bench -> bench.lay(0, 0, 0), both, both, other, both);
        change("close()", bench -> bench.close(), none, none, none, none);
        change("thing()", bench -> bench.thing(), one, none, none, none);
        change("alter()", bench -> bench.alter(0, 5, 5), one, one, none, one);
        change("close() undone", bench -> {
            bench.close();
            bench.undo();
        }, one, one, none, one);
        change("line() undone", bench -> {
            bench.line(1, 0, 0, 0);
            bench.undo();
        }, one, one, none, one);
    }

    /** What CHOICES COST is that of the new NET too, for each KIND and for all that is worked out of it. */
    private static void changesOfCosts() {
        PriceBench bench = NetTest.withThings(2);
        bench.line(0, 1, 4, 1);
        bench.line(0, 1, 0, 2);
        bench.told();
        bench.tell(0, 1);
        bench.tell(0, 2);
        bench.tree();
        bench.way(0, 1);
        bench.pairing(1);
        for (int offer = 0; offer < 4; offer++) {
            bendAt("", bench, offer, 4);
        }
        bench.alter(1, -3, 2);
        for (int offer = 0; offer < 4; offer++) {
            bendAt("altered: ", bench, offer, 7);
        }
        bench.undo();
        for (int offer = 0; offer < 4; offer++) {
            bendAt("undone: ", bench, offer, 4);
        }
        bench.close();
        bench.line(0, 1, 3, 2);
        for (int offer = 0; offer < 4; offer++) {
            bendAt("another LINE: ", bench, offer, 1);
        }
    }

    private static void bendAt(String about, PriceBench bench, int offer, int price) {
        String name = about + "OFFER " + offer + " ";
        DUE.is(name + "bends()", bench.bends(offer), 1);
        DUE.is(name + "bend()", bench.bend(offer, 0, 0), price);
        DUE.is(name + "span()", bench.span(offer, 1, 1), price);
        DUE.is(name + "best() there", bench.best(offer, price, 1, 0), 1);
        DUE.is(name + "BELOW there", bench.best(offer, price, 1, 2), 2);
        DUE.is(name + "least() there", bench.least(offer, price, 1, 0), price + 4);
        DUE.is(name + "regret()", bench.regret(offer, 1, 0), price);
        DUE.is(name + "calm()", bench.calm(offer), price > 5 ? 2 : 1);
    }

    /** "BEST the CHOICE with that COST that is first in THE ORDER"; ABOVE "with the least RISE, BELOW with the greatest". */
    private static void likeCosts() {
        PriceBench bench = PriceTest.lines(9, 0, 5, 2, 1, 4, 5, 2, 1, 4, 9, 0, 10, 1);
        DUE.is("BEST of six like ones", bench.best(0, 2, 1, 0), 1);
        DUE.is("ABOVE of them", bench.best(0, 2, 1, 1), 1);
        DUE.is("BELOW of them", bench.best(0, 2, 1, 2), 4);
        DUE.is("just below", bench.best(0, 1999, 1000, 0), 4);
        DUE.is("just above", bench.best(0, 2001, 1000, 0), 1);
        bench.alter(0, 8, 2);
        DUE.is("BEST, without LINE 0", bench.best(0, 2, 1, 0), 2);
        DUE.is("ABOVE, without LINE 0", bench.best(0, 2, 1, 1), 32);
        DUE.is("BELOW, without LINE 0", bench.best(0, 2, 1, 2), 4);
        bench.alter(2, 8, 2);
        DUE.is("BELOW, without LINE 2", bench.best(0, 2, 1, 2), 16);
    }

    // 2: THE WINDOW

    /** "From 0 to 10 at first"; "strictly between both". */
    private static void theFirstWindow() {
        int[][] due = {{-1, 0}, {0, 0}, {1, 1}, {9, 1}, {10, 0}, {11, 0}};
        for (int[] at : due) {
            PriceBench bench = PriceTest.lines(at[0], 0, 0, 1);
            DUE.is("a BEND at " + at[0], bench.bends(0), at[1]);
        }
        PriceBench bench = PriceTest.lines(50, 1, 50, -1);
        bench.close();
        DUE.is("it goes to 10", bench.top(0, 0), 10);
        bench = PriceTest.lines(50, -1);
        DUE.is("it comes from 0", bench.top(0, 0), 0);
    }

    /** A WINDOW's ends by fractions: a BEND just inside, at an end, just outside. */
    private static void windowsEnds() {
        PriceBench bench = PriceTest.lines(2, 0, 0, 3);
        int[][] windows = {{665, 999, 1, 1, 1}, {2, 3, 1, 1, 0}, {667, 999, 1, 1, 0}, {0, 1, 667, 1000, 1},
            {0, 1, 2, 3, 0}, {0, 1, 4, 6, 0}, {0, 1, 666, 1000, 0}, {666, 1000, 667, 1000, 1}, {2, 3, 2, 3, 0}};
        for (int[] at : windows) {
            bench.window(at[0], at[1], at[2], at[3]);
            DUE.is("a BEND from " + at[0] + "/" + at[1] + " to " + at[2] + "/" + at[3], bench.bends(0), at[4]);
        }
    }

    /** "At which ABOVE and BELOW have unlike RISES": meetings of what is not LEAST, or of like RISES, are none. */
    private static void noBends() {
        PriceBench bench = PriceTest.lines(0, 0, 10, -1, 10, 2, 6, 1);
        bench.window(-20, 1, 20, 1);
        DUE.is("only what is LEAST bends", bench.bends(0), 2);
        DUE.is("from LINE 2 to LINE 0", bench.bend(0, 0, 0), -5);
        DUE.is("from LINE 0 to LINE 1", bench.bend(0, 1, 0), 10);
        bench = PriceTest.lines(3, 1, 3, 1, 4, 1);
        DUE.is("like RISES", bench.bends(0), 0);
        bench = PriceTest.lines(0, 1, 5, 0, 10, -1);
        DUE.is("three that meet at one PRICE are one BEND", bench.bends(0), 1);
        DUE.is("its BELOW", bench.bend(0, 0, 2), 1);
        DUE.is("its ABOVE", bench.bend(0, 0, 3), 4);
        bench.alter(1, 4, 0);
        DUE.is("now they are two", bench.bends(0), 2);
        bench.alter(1, 6, 0);
        DUE.is("now it is one", bench.bends(0), 1);
    }

    private static void span(String about, PriceBench bench, int set, long... due) {
        for (int what = 0; what < 5; what++) {
            DUE.is("SPAN, " + about + ", what " + what, bench.span(0, set, what), due[what]);
        }
    }

    /** "From a least one, or all below; to a greatest one, or all above; or none at all"; "any fractions". */
    private static void spans() {
        PriceBench bench = PriceTest.lines(0, 0, 0, 0, 1, 0);
        span("like ones, for all PRICES", bench, 1, 1, 0, 0, 0, 0);
        span("the other one", bench, 2, 1, 0, 0, 0, 0);
        span("dearer by like RISES: none", bench, 4, 0, NO, NO, NO, NO);
        bench = PriceTest.lines(0, 0, -1, 0);
        span("another one is always cheaper, though it comes later", bench, 1, 0, NO, NO, NO, NO);
        bench = PriceTest.lines(100, 20, -100, 19, -100, 20);
        span("far below all PRICES: none", bench, 1, 0, NO, NO, NO, NO);
        span("from 0 on", bench, 2, 1, 0, 1, 0, 0);
        span("up to 0", bench, 4, 1, 0, 0, 0, 1);
        bench = PriceTest.lines(100, -20, -100, -20, 0, -19, 100, -19);
        span("cheaper than another one of its RISE", bench, 2, 1, -100, 1, 0, 0);
        span("up to where they meet", bench, 4, 1, 0, 0, -100, 1);
        bench = PriceTest.lines(0, 1, 0, -1, 0, 0, 0, 0);
        span("one PRICE alone", bench, 4, 1, 0, 1, 0, 1);
        span("its like one", bench, 8, 1, 0, 1, 0, 1);
        bench.alter(2, 1, 0);
        span("just none", bench, 4, 0, NO, NO, NO, NO);
        bench.alter(2, -1, 0);
        span("around 0", bench, 4, 1, -1, 1, 1, 1);
        span("above 0, cut", bench, 2, 1, 1, 1, 0, 0);
        span("below 0, cut", bench, 1, 1, 0, 0, -1, 1);
    }

    /** A PRICE of a SPAN need be no PRICE that the calls take: 12000 is above 10000. */
    private static void spansFarAway() {
        PriceBench bench = NetTest.withThings(2);
        for (int i = 0; i < 12; i++) {
            bench.line(0, 1, i < 6 ? 100 : -100, i == 0 ? 1 : 0);
        }
        bench.told();
        bench.tell(0, 4032);
        bench.tell(0, 63);
        span("where it is of LEAST", bench, 63, 1, 0, 0, -1200, 1);
        span("the other one", bench, 4032, 1, -1200, 1, 0, 0);
        bench.alter(0, 99, 0);
        bench.alter(6, -99, 1);
        span("far above", bench, 63, 1, 1198, 1, 0, 0);
    }

    private static void top(String about, PriceBench bench, long... due) {
        for (int what = 0; what < 4; what++) {
            DUE.is("TOP, " + about + ", what " + what, bench.top(0, what), due[what]);
        }
    }

    /** "The least PRICE in THE WINDOW at which LEAST is greatest there". */
    private static void tops() {
        PriceBench bench = PriceTest.lines(0, 1, 6, 0, 16, -1);
        top("the first PRICE of a level", bench, 6, 1, 6, 1);
        bench.window(7, 1, 9, 1);
        top("a level all over", bench, 7, 1, 6, 1);
        bench.window(7, 1, 12, 1);
        top("a level from the first PRICE on", bench, 7, 1, 6, 1);
        bench.window(0, 1, 6, 1);
        top("a level at the last PRICE", bench, 6, 1, 6, 1);
        bench.window(10, 1, 12, 1);
        top("it falls from the first PRICE on", bench, 10, 1, 6, 1);
        bench.window(-7, 2, -5, 2);
        top("it rises, below 0", bench, -5, 2, -5, 2);
        bench = PriceTest.lines(-100, -1, -100, 1);
        bench.window(-3, 2, 5, 3);
        top("LEAST below 0", bench, 0, 1, -100, 1);
        bench.window(1, 1, 5, 3);
        top("LEAST below 0, falling", bench, 1, 1, -101, 1);
    }

    /** "If all CHOICES have RISES above 0: the least START by RISE". */
    private static void ratios() {
        int[][] due = {{1, 1}, {0, 0}, {-1, 0}};
        for (int[] rise : due) {
            PriceBench bench = PriceTest.lines(5, 2, 9, 3, 7, rise[0]);
            DUE.is("RATIO, with a RISE of " + rise[0], bench.ratio(0, 0), rise[1] == 1 ? 5 : NO);
            DUE.is("RATIO, with a RISE of " + rise[0], bench.ratio(0, 1), rise[1] == 1 ? 2 : NO);
            DUE.is("RATIO, with a RISE of " + rise[0], bench.ratio(0, 2), rise[1] == 1 ? 1 : NO);
        }
        PriceBench bench = PriceTest.lines(0, 3, 0, 7, 1, 20);
        fraction("RATIO of 0", bench.ratio(0, 0), bench.ratio(0, 1), 0, 1);
        DUE.is("RATIO of 0, the first one", bench.ratio(0, 2), 1);
        bench = PriceTest.lines(9, 6, 6, 4, 3, 2);
        fraction("like RATIOS", bench.ratio(0, 0), bench.ratio(0, 1), 3, 2);
        DUE.is("like RATIOS, the first one", bench.ratio(0, 2), 1);
    }

    /** "The greatest, over THE WINDOW, of its COST less LEAST (it is so at one of both ends)". */
    private static void regrets() {
        PriceBench bench = PriceTest.lines(0, 3, 12, 0, 20, -1);
        int[][] due = {{0, 10, 20, 12, 20}, {2, 6, 6, 6, 12}, {0, 6, 6, 12, 20}, {5, 10, 20, 2, 3}};
        for (int[] at : due) {
            bench.window(at[0], 1, at[1], 1);
            for (int i = 0; i < 3; i++) {
                DUE.is("REGRET of LINE " + i + " from " + at[0] + " to " + at[1], bench.regret(0, 1 << i, 0), at[2 + i]);
            }
        }
        bench.window(1, 3, 2, 3);
        fraction("REGRET, by thirds", bench.regret(0, 4, 0), bench.regret(0, 4, 1), 56, 3);
        bench.window(-1, 2, 5, 7);
        fraction("REGRET, at the first end", bench.regret(0, 4, 0), bench.regret(0, 4, 1), 22, 1);
    }

    /** CALM: "of like ones the first in THE ORDER"; of those "ABOVE at THE WINDOW's first PRICE, or at a BEND". */
    private static void calms() {
        PriceBench bench = PriceTest.lines(10, 0, 0, 2);
        DUE.is("CALM of like REGRETS, the later one ABOVE at first", bench.calm(0), 1);
        bench = PriceTest.lines(0, 2, 10, 0);
        DUE.is("CALM of like REGRETS, the first one ABOVE at first", bench.calm(0), 1);
        bench = PriceTest.lines(5, 0, 0, 3);
        bench.window(1, 3, 3, 1);
        DUE.is("CALM, like REGRETS by fractions", bench.regret(0, 1, 0) == bench.regret(0, 2, 0) ? 1 : 0, 1);
        DUE.is("CALM, like REGRETS by fractions", bench.calm(0), 1);
        bench = PriceTest.lines(0, 3, 5, 0);
        bench.window(1, 3, 3, 1);
        DUE.is("CALM, like REGRETS by fractions", bench.calm(0), 1);
        bench = PriceTest.lines(20, 0, 4, 2, 0, 4, 4, 2);
        bench.top(0, 0);
        DUE.is("CALM in the midst", bench.calm(0), 2);
        bench.alter(1, 5, 2);
        DUE.is("CALM in the midst, another one", bench.calm(0), 8);
        bench.span(0, 1, 0);
        DUE.is("CALM, whatever was asked before", bench.calm(0), 8);
        bench = PriceTest.lines(5, 1, 0, 2, 10, 0);
        DUE.is("CALM: what touches LEAST in one PRICE is not asked", bench.regret(0, 1, 0), 5);
        DUE.is("CALM: what touches LEAST in one PRICE is not asked", bench.calm(0), 2);
    }

    // BARS

    /** "Of a TREE the THINGS that hang together with THING 0", by LINES either way, the last one too. */
    private static void barsOfTrees() {
        PriceBench bench = NetTest.withThings(7);
        bench.tree();
        int[][] ends = {{0, 1}, {3, 1}, {3, 4}, {5, 4}, {6, 2}};
        int[] due = {3, 11, 27, 59, 59};
        DUE.is("BARS of a TREE, THING 0 alone", bench.offerTold(0, 2), 1);
        for (int i = 0; i < ends.length; i++) {
            bench.line(ends[i][0], ends[i][1], 0, 0);
            DUE.is("BARS of a TREE behind LINE " + i, bench.offerTold(0, 2), due[i]);
        }
        bench.line(2, 0, 0, 0);
        DUE.is("BARS of a TREE with CHOICES", bench.offerTold(0, 2), 0);
    }

    /** LINES that come in the worst order: each reaches only what the next one needs. */
    private static void barsAgainstTheOrder() {
        PriceBench bench = NetTest.withThings(7);
        for (int i = 4; i >= 0; i--) {
            bench.line(i, i + 1, 0, 0);
        }
        bench.tree();
        bench.way(0, 6);
        bench.way(3, 6);
        bench.way(6, 0);
        bench.way(4, 0);
        int[] due = {63, 63, 56, 64, 48};
        for (int offer = 0; offer < due.length; offer++) {
            DUE.is("BARS against the order of LINES, OFFER " + offer, bench.offerTold(offer, 2), due[offer]);
        }
    }

    /** "The SIDE, if more THINGS are in it than not; all others, if fewer". */
    private static void barsByNumber() {
        for (int things = 1; things <= 7; things++) {
            for (int side = 0; side < 1 << things; side++) {
                PriceBench bench = NetTest.withThings(things);
                bench.pairing(side);
                int in = Integer.bitCount(side);
                int all = (1 << things) - 1;
                int due = 2 * in > things ? side : 2 * in < things ? all - side : side & -side;
                DUE.is("BARS of SIDE " + side + " of " + things, bench.offerTold(0, 2), due);
            }
        }
    }

    /** "Else the least SET of the SIDE's THINGS, as a number, that have fewer THINGS beside them than they are". */
    private static void barsBeside() {
        PriceBench bench = NetTest.withThings(6);
        bench.pairing(7);
        bench.pairing(56);
        bench.line(0, 3, 0, 0);
        bench.line(4, 1, 0, 0);
        DUE.is("BARS: THING 2 has none beside it", bench.offerTold(0, 2), 4);
        DUE.is("BARS of the others: THING 5", bench.offerTold(1, 2), 32);
        bench.line(2, 4, 0, 0);
        DUE.is("BARS: THINGS 1 and 2 have one", bench.offerTold(0, 2), 6);
        DUE.is("BARS of the others: THING 5 still", bench.offerTold(1, 2), 32);
        bench.line(0, 2, 0, 0);
        bench.line(5, 3, 0, 0);
        DUE.is("BARS: LINES within a side do not count", bench.offerTold(0, 2), 6);
        bench.line(4, 0, 0, 0);
        DUE.is("BARS: THINGS 0 has another one", bench.offerTold(0, 2), 6);
        bench.line(3, 1, 0, 0);
        DUE.is("BARS: all three have two", bench.offerTold(0, 2), 7);
        DUE.is("BARS of the others: 5 has none", bench.offerTold(1, 2), 32);
        bench.line(5, 2, 0, 0);
        DUE.is("with a CHOICE there are no BARS", bench.offerTold(0, 2), 0);
        DUE.is("with a CHOICE there are no BARS", bench.offerTold(1, 2), 0);
    }

    public static void main(String[] args) {
        whichWay();
        costs();
        theOrder();
        lowestTerms();
        toldOnes();
        trees();
        ways();
        theLongestWay();
        pairings();
        changes();
        changesOfCosts();
        likeCosts();
        theFirstWindow();
        windowsEnds();
        noBends();
        spans();
        spansFarAway();
        tops();
        ratios();
        regrets();
        calms();
        barsOfTrees();
        barsAgainstTheOrder();
        barsByNumber();
        barsBeside();
        DUE.end();
    }
}
