import java.math.BigInteger;
import java.util.ArrayList;
import java.util.Arrays;
import java.util.Comparator;
import java.util.List;
import java.util.TreeSet;

/**
 * The document once more, worked out from its definitions alone and by other means than PriceBench: all
 * SETS are tried, BENDS, SPANS, TOP and REGRET are looked for at all PRICES at which two COSTS meet, KINDS
 * are classes under one another, SHEETS are the host's own arrays. Slow, and only for comparison.
 */
final class SlowBench {
    static final int NONE = -1, BAD = -2, STATE = -3, FULL = -4;
    static final long NO = -4611686018427387904L;

    /** A fraction with a number below the line that is above 0. */
    record Fraction(long above, long below) implements Comparable<Fraction> {
        static Fraction of(long above, long below) {
            long sign = below < 0 ? -1 : 1;
            long common = BigInteger.valueOf(above).gcd(BigInteger.valueOf(below)).longValueExact();
            return new Fraction(sign * above / common, sign * below / common);
        }

        public int compareTo(Fraction other) {
            return Long.compare(above * other.below, other.above * below);
        }

        Fraction minus(Fraction other) {
            return of(above * other.below - other.above * below, below * other.below);
        }

        Fraction between(Fraction other) {
            return of(above * other.below + other.above * below, 2 * below * other.below);
        }

        Fraction plus(long whole) {
            return of(above + whole * below, below);
        }

        long told(int what) {
            return what == 0 ? above : below;
        }
    }

    record Line(int from, int to, int start, int rise) {
        Fraction cost(Fraction price) {
            return Fraction.of(start * price.below() + rise * price.above(), price.below());
        }
    }

    record Row(int[] numbers) {
    }

    private int things;
    private List<Line> lines = new ArrayList<>();
    private final List<Told> offers = new ArrayList<>();
    private Fraction first = Fraction.of(0, 1);
    private Fraction last = Fraction.of(10, 1);
    private List<int[]> rows = new ArrayList<>();
    private final List<Integer> trace = new ArrayList<>();
    private final Object[] sheets = new Object[4];
    /** What was there ahead of the latest change; null if that can't be undone. */
    private Runnable back;
    private boolean backTakesThing;

    private class Told {
        final int number = offers.size();
        final List<Integer> sets = new ArrayList<>();

        boolean isChoice(int set) {
            return sets.contains(set);
        }

        int kind() {
            return 0;
        }

        int first() {
            return sets.size();
        }

        int second() {
            return 0;
        }

        int bars() {
            return 0;
        }

        boolean needs(int thing) {
            return false;
        }

        int asks(int x) {
            trace.add(10);
            return x + choices(this).size();
        }

        int shows(int x) {
            trace.add(11);
            return asks(x) * 3;
        }

        int turns(int x) {
            trace.add(12);
            return shows(x) - asks(x + number);
        }
    }

    private class Tree extends Told {
        @Override
        boolean isChoice(int set) {
            if (things == 0 || !hangs(set)) {
                return false;
            }
            for (int line = 0; line < lines.size(); line++) {
                if (has(set, line) && hangs(set & ~(1 << line))) {
                    return false;
                }
            }
            return true;
        }

        @Override
        int kind() {
            return 1;
        }

        @Override
        int first() {
            return 0;
        }

        @Override
        int bars() {
            return things == 0 ? 0 : group(0, (1 << lines.size()) - 1);
        }

        @Override
        int asks(int x) {
            trace.add(20);
            return super.asks(x) ^ 5;
        }

        @Override
        int turns(int x) {
            trace.add(21);
            return super.turns(x) + asks(0);
        }
    }

    private class Way extends Told {
        final int from;
        final int to;

        Way(int from, int to) {
            this.from = from;
            this.to = to;
        }

        @Override
        boolean isChoice(int set) {
            int at = from;
            int used = 0;
            int seen = 1 << from;
            while (at != to) {
                int next = -1;
                for (int line = 0; line < lines.size(); line++) {
                    if (has(set, line) && lines.get(line).from() == at) {
                        if (next >= 0) {
                            return false;
                        }
                        next = line;
                    }
                }
                if (next < 0) {
                    return false;
                }
                at = lines.get(next).to();
                if (has(seen, at)) {
                    return false;
                }
                seen |= 1 << at;
                used |= 1 << next;
            }
            return used == set;
        }

        @Override
        int kind() {
            return 2;
        }

        @Override
        int first() {
            return from;
        }

        @Override
        int second() {
            return to;
        }

        @Override
        int bars() {
            TreeSet<Integer> led = new TreeSet<>();
            follow(from, led);
            int bits = 0;
            for (int thing : led) {
                bits |= 1 << thing;
            }
            return bits;
        }

        private void follow(int thing, TreeSet<Integer> led) {
            if (led.add(thing)) {
                for (Line line : lines) {
                    if (line.from() == thing) {
                        follow(line.to(), led);
                    }
                }
            }
        }

        @Override
        boolean needs(int thing) {
            return thing == from || thing == to;
        }

        @Override
        int shows(int x) {
            trace.add(30);
            return super.shows(x - 1) * 2;
        }
    }

    private class Pairing extends Tree {
        final int side;

        Pairing(int side) {
            this.side = side;
        }

        @Override
        boolean isChoice(int set) {
            int[] held = new int[things];
            for (int line = 0; line < lines.size(); line++) {
                if (has(set, line)) {
                    Line at = lines.get(line);
                    if (has(side, at.from()) == has(side, at.to())) {
                        return false;
                    }
                    held[at.from()]++;
                    held[at.to()]++;
                }
            }
            return Arrays.stream(held).allMatch(h -> h == 1);
        }

        @Override
        int kind() {
            return 3;
        }

        @Override
        int first() {
            return side;
        }

        @Override
        int bars() {
            int others = (1 << things) - 1 - side;
            if (Integer.bitCount(side) > Integer.bitCount(others)) {
                return side;
            }
            if (Integer.bitCount(side) < Integer.bitCount(others)) {
                return others;
            }
            for (int some = 0; some < 128; some++) {
                TreeSet<Integer> beside = new TreeSet<>();
                for (Line line : lines) {
                    if (has(some, line.from()) && !has(side, line.to())) {
                        beside.add(line.to());
                    }
                    if (has(some, line.to()) && !has(side, line.from())) {
                        beside.add(line.from());
                    }
                }
                if ((some | side) == side && beside.size() < Integer.bitCount(some)) {
                    return some;
                }
            }
            throw new IllegalStateException("no bar of a pairing");
        }

        @Override
        boolean needs(int thing) {
            return has(side, thing);
        }

        @Override
        int asks(int x) {
            trace.add(40);
            return super.asks(x) + number;
        }

        @Override
        int shows(int x) {
            trace.add(41);
            return super.shows(x) - super.asks(x);
        }
    }

    private static boolean has(int bits, int i) {
        return (bits >> i & 1) != 0;
    }

    private int group(int thing, int set) {
        boolean[] seen = new boolean[things];
        visit(thing, set, seen);
        int bits = 0;
        for (int i = 0; i < things; i++) {
            bits |= seen[i] ? 1 << i : 0;
        }
        return bits;
    }

    private void visit(int thing, int set, boolean[] seen) {
        if (!seen[thing]) {
            seen[thing] = true;
            for (int line = 0; line < lines.size(); line++) {
                if (has(set, line) && lines.get(line).from() == thing) {
                    visit(lines.get(line).to(), set, seen);
                }
                if (has(set, line) && lines.get(line).to() == thing) {
                    visit(lines.get(line).from(), set, seen);
                }
            }
        }
    }

    private boolean hangs(int set) {
        return group(0, set) == (1 << things) - 1;
    }

    private static int inTheOrder(int a, int b) {
        for (int line = 0; line < 12; line++) {
            if (has(a, line) != has(b, line)) {
                return has(a, line) ? -1 : 1;
            }
        }
        return 0;
    }

    private List<Integer> choices(Told offer) {
        List<Integer> all = new ArrayList<>();
        for (int set = 0; set < 1 << lines.size(); set++) {
            if (offer.isChoice(set)) {
                all.add(set);
            }
        }
        all.sort(SlowBench::inTheOrder);
        return all;
    }

    private int start(int set) {
        int sum = 0;
        for (int line = 0; line < lines.size(); line++) {
            sum += has(set, line) ? lines.get(line).start() : 0;
        }
        return sum;
    }

    private int rise(int set) {
        int sum = 0;
        for (int line = 0; line < lines.size(); line++) {
            sum += has(set, line) ? lines.get(line).rise() : 0;
        }
        return sum;
    }

    private Fraction cost(int set, Fraction price) {
        return Fraction.of(start(set) * price.below() + rise(set) * price.above(), price.below());
    }

    private Fraction least(List<Integer> choices, Fraction price) {
        Fraction least = null;
        for (int set : choices) {
            if (least == null || cost(set, price).compareTo(least) < 0) {
                least = cost(set, price);
            }
        }
        return least;
    }

    private int best(List<Integer> choices, Fraction price, int way) {
        Fraction least = least(choices, price);
        Comparator<Integer> order = SlowBench::inTheOrder;
        if (way == 1) {
            order = Comparator.<Integer>comparingInt(this::rise).thenComparing(order);
        }
        if (way == 2) {
            order = Comparator.<Integer>comparingInt(set -> -rise(set)).thenComparing(order);
        }
        return choices.stream().filter(set -> cost(set, price).equals(least)).min(order).orElse(NONE);
    }

    /** All PRICES at which the COSTS of two CHOICES of unlike RISE meet. */
    private TreeSet<Fraction> meetings(List<Integer> choices) {
        TreeSet<Long> pairs = new TreeSet<>();
        for (int set : choices) {
            pairs.add(start(set) * 1000L + rise(set));
        }
        TreeSet<Fraction> all = new TreeSet<>();
        for (long a : pairs) {
            for (long b : pairs) {
                long rises = Math.floorMod(a + 500, 1000L) - Math.floorMod(b + 500, 1000L);
                long starts = Math.floorDiv(b + 500, 1000L) - Math.floorDiv(a + 500, 1000L);
                if (rises > 0) {
                    all.add(Fraction.of(starts, rises));
                }
            }
        }
        return all;
    }

    private TreeSet<Fraction> meetingsInWindow(List<Integer> choices) {
        TreeSet<Fraction> all = meetings(choices);
        all.removeIf(price -> price.compareTo(first) <= 0 || price.compareTo(last) >= 0);
        return all;
    }

    private List<int[]> bendsOf(List<Integer> choices) {
        List<int[]> found = new ArrayList<>();
        for (Fraction price : meetingsInWindow(choices)) {
            int above = best(choices, price, 1);
            int below = best(choices, price, 2);
            if (rise(above) != rise(below)) {
                found.add(new int[] {(int) price.above(), (int) price.below(), below, above});
            }
        }
        return found;
    }

    private Told offerAt(int offer) {
        return offer >= 0 && offer < offers.size() ? offers.get(offer) : null;
    }

    private static boolean isPrice(int p, int q) {
        return Math.abs((long) p) <= 10000 && q >= 1 && q <= 1000;
    }

    private boolean isThing(int thing) {
        return thing >= 0 && thing < things;
    }

    private void changed(Runnable undoing, boolean takesThing) {
        back = undoing;
        backTakesThing = takesThing;
    }

    int thing() {
        if (things == 7) {
            return FULL;
        }
        changed(() -> things--, true);
        return things++;
    }

    int line(int a, int b, int start, int rise) {
        if (!isThing(a) || !isThing(b) || a == b || start < -100 || start > 100 || rise < -20 || rise > 20) {
            return BAD;
        }
        if (lines.size() == 12) {
            return FULL;
        }
        keepLines();
        lines.add(new Line(a, b, start, rise));
        return lines.size() - 1;
    }

    private void keepLines() {
        List<Line> old = new ArrayList<>(lines);
        changed(() -> lines = old, false);
    }

    int alter(int line, int start, int rise) {
        if (line < 0 || line >= lines.size() || start < -100 || start > 100 || rise < -20 || rise > 20) {
            return BAD;
        }
        keepLines();
        lines.set(line, new Line(lines.get(line).from(), lines.get(line).to(), start, rise));
        return 1;
    }

    int close() {
        if (lines.isEmpty()) {
            return STATE;
        }
        keepLines();
        lines.remove(lines.size() - 1);
        return lines.size();
    }

    int undo() {
        if (back == null) {
            return STATE;
        }
        if (backTakesThing) {
            for (Told offer : offers) {
                if (offer.needs(things - 1)) {
                    return STATE;
                }
            }
        }
        back.run();
        back = null;
        return 1;
    }

    int lineTold(int line, int what) {
        if (what < 0 || what > 3) {
            return BAD;
        }
        if (line < 0 || line >= lines.size()) {
            return NONE;
        }
        Line at = lines.get(line);
        return new int[] {at.from(), at.to(), at.start(), at.rise()}[what];
    }

    private int comes(Told offer) {
        offers.add(offer);
        return offer.number;
    }

    int told() {
        return offers.size() == 10 ? FULL : comes(new Told());
    }

    int tell(int offer, int set) {
        Told told = offerAt(offer);
        if (told == null || set < 0 || set > 4095 || told.kind() != 0) {
            return BAD;
        }
        if (told.sets.contains(set)) {
            return STATE;
        }
        if (told.sets.size() == 8) {
            return FULL;
        }
        told.sets.add(set);
        return told.sets.size();
    }

    int tree() {
        return offers.size() == 10 ? FULL : comes(new Tree());
    }

    int way(int a, int b) {
        if (!isThing(a) || !isThing(b) || a == b) {
            return BAD;
        }
        return offers.size() == 10 ? FULL : comes(new Way(a, b));
    }

    int pairing(int side) {
        for (int bit = 0; bit < 32; bit++) {
            if (has(side, bit) && bit >= things) {
                return BAD;
            }
        }
        return offers.size() == 10 ? FULL : comes(new Pairing(side));
    }

    int offerTold(int offer, int what) {
        Told told = offerAt(offer);
        if (told == null || what < 0 || what > 4) {
            return BAD;
        }
        int many = choices(told).size();
        return switch (what) {
            case 0 -> told.kind();
            case 1 -> many;
            case 2 -> many > 0 ? 0 : told.bars();
            case 3 -> told.first();
            default -> told.second();
        };
    }

    int choice(int offer, int i) {
        if (offerAt(offer) == null) {
            return BAD;
        }
        List<Integer> choices = choices(offerAt(offer));
        return i < 0 || i >= choices.size() ? NONE : choices.get(i);
    }

    long cost(int set, int p, int q, int what) {
        if (set < 0 || set >= 1 << lines.size() || !isPrice(p, q) || what < 0 || what > 1) {
            return NO;
        }
        return cost(set, Fraction.of(p, q)).told(what);
    }

    int best(int offer, int p, int q, int way) {
        if (offerAt(offer) == null || !isPrice(p, q) || way < 0 || way > 2) {
            return BAD;
        }
        List<Integer> choices = choices(offerAt(offer));
        return choices.isEmpty() ? NONE : best(choices, Fraction.of(p, q), way);
    }

    long least(int offer, int p, int q, int what) {
        if (offerAt(offer) == null || !isPrice(p, q) || what < 0 || what > 1) {
            return NO;
        }
        List<Integer> choices = choices(offerAt(offer));
        return choices.isEmpty() ? NO : least(choices, Fraction.of(p, q)).told(what);
    }

    int window(int p, int q, int p2, int q2) {
        if (!isPrice(p, q) || !isPrice(p2, q2) || Fraction.of(p2, q2).compareTo(Fraction.of(p, q)) < 0) {
            return BAD;
        }
        first = Fraction.of(p, q);
        last = Fraction.of(p2, q2);
        return 1;
    }

    int bends(int offer) {
        return offerAt(offer) == null ? BAD : bendsOf(choices(offerAt(offer))).size();
    }

    long bend(int offer, int i, int what) {
        if (offerAt(offer) == null) {
            return NO;
        }
        List<int[]> found = bendsOf(choices(offerAt(offer)));
        return i < 0 || i >= found.size() || what < 0 || what > 3 ? NO : found.get(i)[what];
    }

    /** SPAN by trying: all meetings, a PRICE between each two, one below and one above all. */
    long span(int offer, int set, int what) {
        if (offerAt(offer) == null || what < 0 || what > 4) {
            return NO;
        }
        List<Integer> choices = choices(offerAt(offer));
        if (!choices.contains(set)) {
            return NO;
        }
        TreeSet<Fraction> tried = new TreeSet<>(meetings(choices));
        tried.add(Fraction.of(0, 1));
        Fraction belowAll = tried.first().plus(-1);
        Fraction aboveAll = tried.last().plus(1);
        Fraction before = belowAll;
        for (Fraction price : new ArrayList<>(tried)) {
            tried.add(before.between(price));
            before = price;
        }
        tried.add(belowAll);
        tried.add(aboveAll);
        tried.removeIf(price -> !cost(set, price).equals(least(choices, price)));
        if (what == 0) {
            return tried.isEmpty() ? 0 : 1;
        }
        if (tried.isEmpty()) {
            return NO;
        }
        Fraction end = what <= 2 ? tried.first() : tried.last();
        boolean endless = end.equals(what <= 2 ? belowAll : aboveAll);
        return endless ? 0 : end.told((what - 1) % 2);
    }

    long top(int offer, int what) {
        if (offerAt(offer) == null || what < 0 || what > 3) {
            return NO;
        }
        List<Integer> choices = choices(offerAt(offer));
        if (choices.isEmpty()) {
            return NO;
        }
        Fraction top = first;
        TreeSet<Fraction> tried = meetingsInWindow(choices);
        tried.add(last);
        for (Fraction price : tried) {
            if (least(choices, price).compareTo(least(choices, top)) > 0) {
                top = price;
            }
        }
        return what < 2 ? top.told(what) : least(choices, top).told(what - 2);
    }

    long ratio(int offer, int what) {
        if (offerAt(offer) == null || what < 0 || what > 2) {
            return NO;
        }
        List<Integer> choices = choices(offerAt(offer));
        Fraction least = null;
        int having = NONE;
        for (int set : choices) {
            if (rise(set) <= 0) {
                return NO;
            }
            Fraction ratio = Fraction.of(start(set), rise(set));
            if (least == null || ratio.compareTo(least) < 0) {
                least = ratio;
                having = set;
            }
        }
        if (least == null) {
            return NO;
        }
        return what == 2 ? having : least.told(what);
    }

    private Fraction regret(List<Integer> choices, int set) {
        Fraction most = Fraction.of(0, 1);
        for (Fraction price : List.of(first, last, first.between(last))) {
            Fraction regret = cost(set, price).minus(least(choices, price));
            most = regret.compareTo(most) > 0 ? regret : most;
        }
        return most;
    }

    long regret(int offer, int set, int what) {
        if (offerAt(offer) == null || what < 0 || what > 1) {
            return NO;
        }
        List<Integer> choices = choices(offerAt(offer));
        return choices.contains(set) ? regret(choices, set).told(what) : NO;
    }

    int calm(int offer) {
        if (offerAt(offer) == null) {
            return BAD;
        }
        List<Integer> choices = choices(offerAt(offer));
        if (choices.isEmpty()) {
            return NONE;
        }
        List<Integer> asked = new ArrayList<>(List.of(best(choices, first, 1)));
        for (int[] bend : bendsOf(choices)) {
            asked.add(bend[3]);
        }
        asked.sort(Comparator.<Integer, Fraction>comparing(set -> regret(choices, set))
                .thenComparing(SlowBench::inTheOrder));
        return asked.get(0);
    }

    int why(int offer, int set, int p, int q) {
        Told told = offerAt(offer);
        if (told == null || told.kind() != 1 || !isPrice(p, q) || !choices(told).contains(set)) {
            return BAD;
        }
        Fraction price = Fraction.of(p, q);
        for (int line = 0; line < lines.size(); line++) {
            if (!has(set, line)) {
                int dearest = NONE;
                for (int other : wayWithin(set, lines.get(line).from(), lines.get(line).to(), NONE)) {
                    Fraction cost = lines.get(other).cost(price);
                    int dearer = dearest < 0 ? 1 : cost.compareTo(lines.get(dearest).cost(price));
                    if (dearer > 0 || dearer == 0 && other < dearest) {
                        dearest = other;
                    }
                }
                if (lines.get(line).cost(price).compareTo(lines.get(dearest).cost(price)) < 0) {
                    return 12 * line + dearest;
                }
            }
        }
        return NONE;
    }

    /** The LINES on the way between two THINGS in a tree; null if that has none without the LINE it came by. */
    private List<Integer> wayWithin(int set, int at, int to, int came) {
        if (at == to) {
            return new ArrayList<>();
        }
        for (int line = 0; line < lines.size(); line++) {
            Line on = lines.get(line);
            if (has(set, line) && line != came && (on.from() == at || on.to() == at)) {
                List<Integer> rest = wayWithin(set, on.from() == at ? on.to() : on.from(), to, line);
                if (rest != null) {
                    rest.add(line);
                    return rest;
                }
            }
        }
        return null;
    }

    int write(int offer) {
        if (offerAt(offer) == null) {
            return BAD;
        }
        rows = bendsOf(choices(offerAt(offer)));
        return rows.size();
    }

    long row(int i, int what) {
        return i < 0 || i >= rows.size() || what < 0 || what > 3 ? NO : rows.get(i)[what];
    }

    int forge(int i, int what, int v) {
        if (i < 0 || i >= rows.size() || what < 0 || what > 3 || v < -1000000 || v > 1000000) {
            return BAD;
        }
        rows.get(i)[what] = v;
        return 1;
    }

    int check(int offer) {
        if (offerAt(offer) == null) {
            return BAD;
        }
        List<Integer> choices = choices(offerAt(offer));
        for (int i = 0; i < rows.size(); i++) {
            int how = wrong(choices, rows.get(i), i == 0 ? null : rows.get(i - 1));
            if (how != 0) {
                return 8 * i + how;
            }
        }
        return bendsOf(choices).size() == rows.size() ? NONE : STATE;
    }

    private int wrong(List<Integer> choices, int[] row, int[] ahead) {
        if (row[1] <= 0 || !isPrice(row[0], row[1])) {
            return 1;
        }
        Fraction price = Fraction.of(row[0], row[1]);
        if (price.below() != row[1] || price.compareTo(first) <= 0 || price.compareTo(last) >= 0) {
            return 1;
        }
        if (ahead != null && price.compareTo(Fraction.of(ahead[0], ahead[1])) <= 0) {
            return 2;
        }
        if (!choices.contains(row[2])) {
            return 3;
        }
        if (!choices.contains(row[3])) {
            return 4;
        }
        if (!cost(row[2], price).equals(cost(row[3], price))) {
            return 5;
        }
        if (least(choices, price).compareTo(cost(row[2], price)) < 0) {
            return 6;
        }
        return rise(row[2]) > rise(row[3]) ? 0 : 7;
    }

    int act(int offer, int act, int x) {
        trace.clear();
        Told told = offerAt(offer);
        if (told == null || act < 0 || act > 2) {
            return 0;
        }
        return act == 0 ? told.asks(x) : act == 1 ? told.shows(x) : told.turns(x);
    }

    int trace(int i) {
        return i < 0 || i >= Math.min(40, trace.size()) ? NONE : trace.get(i);
    }

    int count(int what) {
        int[] counts = {things, lines.size(), offers.size(), rows.size(), trace.size()};
        return what < 0 || what > 4 ? BAD : counts[what];
    }

    int sheet(int sheet, int sort, int n) {
        if (sheet < 0 || sheet > 3 || sort < -1 || sort > 2) {
            return BAD;
        }
        if (sort == -1) {
            sheets[sheet] = null;
            return 1;
        }
        if (n > 40) {
            return BAD;
        }
        try {
            sheets[sheet] = sort == 0 ? new byte[n] : sort == 1 ? new int[n] : new long[n];
            return 1;
        } catch (NegativeArraySizeException e) {
            return -14;
        }
    }

    int cell(int sheet, int i, int v) {
        if (sheet < 0 || sheet > 3) {
            return BAD;
        }
        try {
            if (sheets[sheet] instanceof byte[] bytes) {
                bytes[i] = (byte) v;
            } else if (sheets[sheet] instanceof int[] ints) {
                ints[i] = v;
            } else {
                ((long[]) sheets[sheet])[i] = v;
            }
            return 1;
        } catch (NullPointerException e) {
            return -11;
        } catch (ArrayIndexOutOfBoundsException e) {
            return -12;
        }
    }

    int lay(int sheet, int sort, int i) {
        if (sheet < 0 || sheet > 3 || sort < 0 || sort > 2) {
            return BAD;
        }
        int[] items = new int[4];
        try {
            for (int k = 0; k < 4; k++) {
                if (sort == 0) {
                    items[k] = ((byte[]) sheets[sheet])[i + k];
                } else if (sort == 1) {
                    items[k] = ((int[]) sheets[sheet])[i + k];
                } else {
                    items[k] = (int) ((long[]) sheets[sheet])[i + k];
                }
            }
        } catch (ClassCastException e) {
            return -13;
        } catch (NullPointerException e) {
            return -11;
        } catch (ArrayIndexOutOfBoundsException e) {
            return -12;
        }
        return line(items[0], items[1], items[2], items[3]);
    }

    int copy(int sheet, int i, int other, int j, int n) {
        if (sheet < 0 || sheet > 3 || other < 0 || other > 3) {
            return BAD;
        }
        try {
            System.arraycopy(sheets[sheet], i, sheets[other], j, n);
            return n;
        } catch (NullPointerException e) {
            return -11;
        } catch (ArrayStoreException e) {
            return -13;
        } catch (IndexOutOfBoundsException e) {
            return -12;
        }
    }

    int taken(int offer, int k) {
        if (k < 0 || k > 3) {
            return BAD;
        }
        Told told = offerAt(offer);
        if (told == null) {
            return -11;
        }
        Class<?>[] kinds = {Told.class, Tree.class, Way.class, Pairing.class};
        return kinds[k].isInstance(told) ? choices(told).size() : -13;
    }
}
