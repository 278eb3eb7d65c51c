import java.util.List;
import java.util.function.Consumer;

/** Promises 1 to 7: a new object, THINGS, LINES and what undoes their changes. */
public final class NetTest {
    private static final Due DUE = new Due("NetTest");

    static PriceBench withThings(int many) {
        PriceBench bench = new PriceBench();
        for (int i = 0; i < many; i++) {
            bench.thing();
        }
        return bench;
    }

    /** A bench of two THINGS with as many LINES as are wanted between them. */
    static PriceBench withLines(int many) {
        PriceBench bench = withThings(2);
        for (int i = 0; i < many; i++) {
            bench.line(0, 1, i, i - 6);
        }
        return bench;
    }

    private static void promise1() {
        PriceBench bench = new PriceBench();
        for (int what = 0; what <= 4; what++) {
            DUE.is("1: count(" + what + ")", bench.count(what), 0);
        }
        DUE.is("1: row(0, 0)", bench.row(0, 0), PriceBench.NO);
        DUE.is("1: offerTold(0, 0)", bench.offerTold(0, 0), -2);
        DUE.is("1: undo()", bench.undo(), -3);
        DUE.is("1: trace(0)", bench.trace(0), -1);
        for (int sheet = 0; sheet < 4; sheet++) {
            DUE.is("1: cell(" + sheet + ")", bench.cell(sheet, 0, 0), -11);
        }
        bench.told();
        bench.tell(0, 0);
        DUE.is("1: THE WINDOW begins at 0", bench.top(0, 0), 0);
        bench.thing();
        bench.thing();
        bench.line(0, 1, 0, 1);
        bench.way(0, 1);
        DUE.is("1: THE WINDOW ends at 10", bench.top(1, 0), 10);
    }

    private static void promise2() {
        PriceBench bench = new PriceBench();
        for (int i = 0; i < 7; i++) {
            DUE.is("2: thing()", bench.thing(), i);
        }
        DUE.is("2: an eighth thing()", bench.thing(), -4);
        DUE.is("2: count(0)", bench.count(0), 7);
    }

    private static void promise3() {
        PriceBench bench = withThings(7);
        DUE.is("3: edges", bench.line(0, 6, -100, -20), 0);
        DUE.is("3: edges", bench.line(6, 0, 100, 20), 1);
        DUE.is("3: no such THING", bench.line(7, 0, 0, 0), -2);
        DUE.is("3: no such THING", bench.line(0, 7, 0, 0), -2);
        DUE.is("3: no such THING", bench.line(-1, 0, 0, 0), -2);
        DUE.is("3: no such THING", bench.line(0, -1, 0, 0), -2);
        DUE.is("3: a = b", bench.line(3, 3, 0, 0), -2);
        DUE.is("3: START", bench.line(0, 1, 101, 0), -2);
        DUE.is("3: START", bench.line(0, 1, -101, 0), -2);
        DUE.is("3: RISE", bench.line(0, 1, 0, 21), -2);
        DUE.is("3: RISE", bench.line(0, 1, 0, -21), -2);
        DUE.is("3: refused ones change nothing", bench.count(1), 2);
        for (int i = 2; i < 12; i++) {
            DUE.is("3: line()", bench.line(0, 1, 0, 0), i);
        }
        DUE.is("3: a thirteenth", bench.line(0, 1, 0, 0), -4);
        DUE.is("3: BAD ahead of FULL", bench.line(1, 1, 0, 0), -2);
        DUE.is("3: in a NET without THINGS", new PriceBench().line(0, 1, 0, 0), -2);
    }

    private static void promise4() {
        PriceBench bench = withLines(2);
        DUE.is("4: alter()", bench.alter(1, -100, 20), 1);
        DUE.is("4: START", bench.lineTold(1, 2), -100);
        DUE.is("4: RISE", bench.lineTold(1, 3), 20);
        DUE.is("4: the other LINE stays", bench.lineTold(0, 3), -6);
        DUE.is("4: edges", bench.alter(0, 100, -20), 1);
        DUE.is("4: no such LINE", bench.alter(2, 0, 0), -2);
        DUE.is("4: no such LINE", bench.alter(-1, 0, 0), -2);
        DUE.is("4: START", bench.alter(0, 101, 0), -2);
        DUE.is("4: START", bench.alter(0, -101, 0), -2);
        DUE.is("4: RISE", bench.alter(0, 0, 21), -2);
        DUE.is("4: RISE", bench.alter(0, 0, -21), -2);
        DUE.is("4: refused ones change nothing", bench.lineTold(0, 2), 100);
        bench.tree();
        DUE.is("4: CHOICES COST otherwise", bench.least(0, 1, 1, 0), -80);
        bench.alter(1, 7, 0);
        DUE.is("4: CHOICES COST otherwise", bench.least(0, 1, 1, 0), 7);
    }

    private static void promise5() {
        PriceBench bench = withLines(3);
        bench.tree();
        DUE.is("5: three CHOICES", bench.offerTold(0, 1), 3);
        DUE.is("5: close()", bench.close(), 2);
        DUE.is("5: two CHOICES", bench.offerTold(0, 1), 2);
        DUE.is("5: the last one went", bench.lineTold(2, 0), -1);
        DUE.is("5: not the first one", bench.lineTold(0, 3), -6);
        DUE.is("5: close()", bench.close(), 1);
        DUE.is("5: close()", bench.close(), 0);
        DUE.is("5: there is none", bench.close(), -3);
    }

    private static void promise6() {
        PriceBench bench = withLines(2);
        DUE.is("6: undo() of line()", bench.undo(), 1);
        DUE.is("6: that LINE went", bench.count(1), 1);
        DUE.is("6: once", bench.undo(), -3);
        bench.alter(0, 50, 5);
        DUE.is("6: undo() of alter()", bench.undo(), 1);
        DUE.is("6: START again", bench.lineTold(0, 2), 0);
        DUE.is("6: RISE again", bench.lineTold(0, 3), -6);
        DUE.is("6: once", bench.undo(), -3);
        bench.alter(0, 50, 5);
        bench.close();
        DUE.is("6: a refused one is no latest one", bench.close(), -3);
        DUE.is("6: undo() of close()", bench.undo(), 1);
        DUE.is("6: the LINE as it was", bench.lineTold(0, 2), 50);
        DUE.is("6: the LINE as it was", bench.lineTold(0, 1), 1);
        DUE.is("6: once", bench.undo(), -3);
        bench.thing();
        bench.alter(5, 0, 0);
        bench.line(0, 0, 0, 0);
        DUE.is("6: undo() of thing()", bench.undo(), 1);
        DUE.is("6: that THING went", bench.count(0), 2);
        DUE.is("6: it comes again", bench.thing(), 2);
        bench.tree();
        bench.told();
        DUE.is("6: OFFERS stay", bench.undo(), 1);
        DUE.is("6: OFFERS stay", bench.count(2), 2);
        bench.thing();
        bench.way(2, 0);
        DUE.is("6: a WAY has the THING", bench.undo(), -3);
        DUE.is("6: refused, it changes nothing", bench.count(0), 3);
        DUE.is("6: a LINE goes all the same", bench.line(2, 1, 0, 0), 1);
        DUE.is("6: a LINE goes all the same", bench.undo(), 1);
    }

    private static void promise6Things() {
        PriceBench bench = withThings(3);
        bench.way(1, 2);
        DUE.is("6: the other THING of a WAY", bench.undo(), -3);
        bench = withThings(3);
        bench.pairing(4);
        DUE.is("6: a SIDE has the THING", bench.undo(), -3);
        bench = withThings(3);
        bench.pairing(3);
        bench.way(0, 1);
        bench.tree();
        DUE.is("6: no OFFER has the THING", bench.undo(), 1);
        DUE.is("6: no OFFER has the THING", bench.count(0), 2);
        bench = withThings(2);
        bench.sheet(0, 1, 4);
        bench.cell(0, 1, 1);
        bench.lay(0, 1, 0);
        bench.sheet(1, 0, 3);
        bench.window(1, 1, 2, 1);
        DUE.is("6: undo() of lay()", bench.undo(), 1);
        DUE.is("6: that LINE went", bench.count(1), 0);
        DUE.is("6: the SHEET stays", bench.cell(0, 3, 1), 1);
    }

    /** 3 THINGS, 3 LINES, OFFERS that do not have THING 3, a SHEET that lay() takes. */
    private static PriceBench forUndo() {
        PriceBench bench = withThings(3);
        bench.line(0, 1, 11, 1);
        bench.line(2, 1, 12, -2);
        bench.line(2, 0, 13, 3);
        bench.told();
        bench.way(0, 2);
        bench.pairing(5);
        bench.sheet(0, 2, 4);
        bench.cell(0, 1, 2);
        bench.cell(0, 3, 9);
        return bench;
    }

    private static String netOf(PriceBench bench) {
        StringBuilder told = new StringBuilder().append(bench.count(0)).append(" THINGS");
        for (int line = 0; line < bench.count(1); line++) {
            for (int what = 0; what < 4; what++) {
                told.append(what == 0 ? "; " : " ").append(bench.lineTold(line, what));
            }
        }
        return told.toString();
    }

    private static final List<Consumer<PriceBench>> CHANGES = List.of(
            bench -> bench.thing(), bench -> bench.line(1, 2, 0, 0), bench -> bench.alter(1, -5, 5),
            bench -> bench.alter(0, 11, 1), bench -> bench.close(), bench -> bench.lay(0, 2, 0));

    /** Calls that are no changes of THINGS or LINES, and refused ones that would be. */
    private static final List<Consumer<PriceBench>> OTHERS = List.of(
            bench -> bench.window(1, 1, 2, 1), bench -> bench.told(), bench -> bench.tell(0, 1), bench -> bench.tree(),
            bench -> bench.way(1, 0), bench -> bench.pairing(6), bench -> bench.write(0), bench -> bench.act(0, 2, 1),
            bench -> bench.sheet(0, 1, 4), bench -> bench.cell(0, 1, 1), bench -> bench.copy(0, 0, 0, 1, 2),
            bench -> bench.cost(1, 1, 1, 0), bench -> bench.check(0), bench -> bench.line(0, 0, 0, 0),
            bench -> bench.line(0, 1, 101, 0), bench -> bench.alter(9, 0, 0), bench -> bench.alter(0, 0, 21),
            bench -> bench.lay(0, 2, 1), bench -> bench.lay(1, 2, 0), bench -> bench.lay(0, 1, 0));

    /** "The latest of thing(), line(), alter(), close(), lay() that was not refused is undone (once)". */
    private static void promise6Latest() {
        String untouched = netOf(forUndo());
        for (int i = 0; i < CHANGES.size(); i++) {
            for (int j = 0; j < OTHERS.size(); j++) {
                PriceBench bench = forUndo();
                CHANGES.get(i).accept(bench);
                OTHERS.get(j).accept(bench);
                String name = "change " + i + " ahead of call " + j + ": ";
                DUE.is("6: " + name + "undo()", bench.undo(), 1);
                DUE.holds("6: " + name + "as it was", netOf(bench).equals(untouched));
                DUE.is("6: " + name + "once", bench.undo(), -3);
                DUE.holds("6: " + name + "once", netOf(bench).equals(untouched));
            }
            for (int j = 0; j < CHANGES.size(); j++) {
                PriceBench bench = forUndo();
                CHANGES.get(i).accept(bench);
                String between = netOf(bench);
                CHANGES.get(j).accept(bench);
                String name = "change " + i + " ahead of change " + j + ": ";
                DUE.is("6: " + name + "undo() of the latter", bench.undo(), 1);
                DUE.holds("6: " + name + "the former stays", netOf(bench).equals(between));
                DUE.is("6: " + name + "and can't be undone", bench.undo(), -3);
                CHANGES.get(j).accept(bench);
                DUE.is("6: " + name + "another change can", bench.undo(), 1);
                DUE.holds("6: " + name + "as it was between both", netOf(bench).equals(between));
            }
        }
    }

    /** "An OFFER has a THING that would not be there": only a thing() takes one away; TREES and TOLD ones have none. */
    private static void promise6Offers() {
        for (int side = 0; side < 16; side++) {
            PriceBench bench = withThings(4);
            bench.pairing(side);
            DUE.is("6: THING 3, SIDE " + side, bench.undo(), side < 8 ? 1 : -3);
            DUE.is("6: THING 3, SIDE " + side, bench.count(0), side < 8 ? 3 : 4);
            DUE.is("6: refused or undone, no second time", bench.undo(), -3);
        }
        for (int a = 0; a < 4; a++) {
            for (int b = 0; b < 4; b++) {
                PriceBench bench = withThings(4);
                boolean has = bench.way(a, b) == 0 && (a == 3 || b == 3);
                DUE.is("6: THING 3, WAY from " + a + " to " + b, bench.undo(), has ? -3 : 1);
            }
        }
        PriceBench bench = withThings(4);
        bench.told();
        bench.tell(0, 4095);
        bench.tree();
        DUE.is("6: TOLD ones and TREES have no THING", bench.undo(), 1);
        bench.thing();
        bench.way(0, 3);
        bench.line(0, 1, 0, 0);
        DUE.is("6: a LINE goes, whatever OFFERS have", bench.undo(), 1);
        bench.line(0, 3, 0, 0);
        bench.close();
        DUE.is("6: a LINE comes again", bench.undo(), 1);
        bench.alter(0, 1, 1);
        DUE.is("6: a LINE is as it was", bench.undo(), 1);
        bench.thing();
        DUE.is("6: a THING that no OFFER has", bench.undo(), 1);
        DUE.is("6: a THING that no OFFER has", bench.count(0), 4);
    }

    private static void promise7() {
        PriceBench bench = withThings(3);
        bench.line(2, 1, -1, 9);
        DUE.is("7: from", bench.lineTold(0, 0), 2);
        DUE.is("7: to", bench.lineTold(0, 1), 1);
        DUE.is("7: START", bench.lineTold(0, 2), -1);
        DUE.is("7: RISE", bench.lineTold(0, 3), 9);
        DUE.is("7: no LINE", bench.lineTold(1, 0), -1);
        DUE.is("7: no LINE", bench.lineTold(-1, 3), -1);
        DUE.is("7: what", bench.lineTold(0, 4), -2);
        DUE.is("7: what", bench.lineTold(0, -1), -2);
        DUE.is("7: what ahead of no LINE", bench.lineTold(1, 4), -2);
    }

    public static void main(String[] args) {
        promise1();
        promise2();
        promise3();
        promise4();
        promise5();
        promise6();
        promise6Things();
        promise6Latest();
        promise6Offers();
        promise7();
        DUE.end();
    }
}
