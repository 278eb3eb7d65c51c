import java.util.Arrays;

/**
 * A bench that answers for all prices at once: lightest trees, shortest ways, best pairings and told
 * choices of lines whose costs go with the price of one thing. The words in capitals are those of the
 * document's "Terms".
 */
public final class PriceBench {
    public static final int NONE = -1, BAD = -2, STATE = -3, FULL = -4;
    public static final long NO = -4611686018427387904L;

    private static final int MISSING = -11, OUTSIDE = -12, OTHER_SORT = -13, SIZE_BELOW_0 = -14;
    private static final int MOST_THINGS = 7, MOST_LINES = 12, MOST_OFFERS = 10, MOST_TOLD = 8;
    private static final int MOST_START = 100, MOST_RISE = 20, MOST_P = 10000, MOST_Q = 1000;
    private static final int MOST_FORGED = 1000000;
    private static final int SHEETS = 4, MOST_ITEMS = 40, MISSING_SORT = -1, BYTES = 0, LONGS = 2;
    private static final int TOLD = 0, TREE = 1, WAY = 2, PAIRING = 3;
    private static final int BEST = 0, ABOVE = 1, BELOW = 2;

    private final Net net = new Net();
    private final Offer[] offers = new Offer[MOST_OFFERS];
    private int offerCount;
    private final Window window = new Window();
    private final Rows rows = new Rows();
    private final Acts acts = new Acts();
    private final Sheet[] sheets = new Sheet[SHEETS];
    /** Where the answers that are several numbers are put together; the call's what picks one. */
    private final long[] found = new long[5];

    public PriceBench() {
        for (int i = 0; i < SHEETS; i++) {
            sheets[i] = new Sheet();
        }
    }

    // THE NET

    public int thing() {
        return net.addThing();
    }

    public int line(int a, int b, int start, int rise) {
        if (!net.isThing(a) || !net.isThing(b) || a == b || !isLineCost(start, rise)) {
            return BAD;
        }
        return net.addLine(a, b, start, rise);
    }

    public int alter(int line, int start, int rise) {
        if (!net.isLine(line) || !isLineCost(start, rise)) {
            return BAD;
        }
        net.changeLine(line, start, rise);
        return 1;
    }

    public int close() {
        return net.lines == 0 ? STATE : net.dropLine();
    }

    public int undo() {
        boolean thingGoes = net.latest == Net.THING_CAME;
        if (net.latest == Net.NOTHING || thingGoes && someOfferNeeds(net.things - 1)) {
            return STATE;
        }
        net.stepBack();
        return 1;
    }

    public int lineTold(int line, int what) {
        if (what < 0 || what > 3) {
            return BAD;
        }
        return net.isLine(line) ? net.numberOf(line, what) : NONE;
    }

    private static boolean isLineCost(int start, int rise) {
        return start >= -MOST_START && start <= MOST_START && rise >= -MOST_RISE && rise <= MOST_RISE;
    }

    // OFFERS

    public int told() {
        return offerCount >= MOST_OFFERS ? FULL : addOffer(new Told(offerCount));
    }

    public int tell(int offer, int set) {
        boolean isSet = set >= 0 && set < 1 << MOST_LINES;
        return isSet && offerAt(offer) instanceof Told asked ? asked.take(set) : BAD;
    }

    public int tree() {
        return offerCount >= MOST_OFFERS ? FULL : addOffer(new Tree(offerCount));
    }

    public int way(int a, int b) {
        if (!net.isThing(a) || !net.isThing(b) || a == b) {
            return BAD;
        }
        return offerCount >= MOST_OFFERS ? FULL : addOffer(new Way(offerCount, a, b));
    }

    public int pairing(int side) {
        if (side < 0 || side > net.allThings()) {
            return BAD;
        }
        return offerCount >= MOST_OFFERS ? FULL : addOffer(new Pairing(offerCount, side));
    }

    public int offerTold(int offer, int what) {
        Offer asked = offerAt(offer);
        if (asked == null) {
            return BAD;
        }
        switch (what) {
            case 0:
                return asked.kind;
            case 1:
                return asked.choices.many;
            case 2:
                return asked.choices.many > 0 ? 0 : asked.barsIn(net);
            case 3:
                return asked.firstNumber();
            case 4:
                return asked.secondNumber();
            default:
                return BAD;
        }
    }

    public int choice(int offer, int i) {
        Offer asked = offerAt(offer);
        if (asked == null) {
            return BAD;
        }
        return i >= 0 && i < asked.choices.many ? asked.choices.sets[i] : NONE;
    }

    public int taken(int offer, int k) {
        if (k < TOLD || k > PAIRING) {
            return BAD;
        }
        Offer asked = offerAt(offer);
        if (asked == null) {
            return MISSING;
        }
        return Acts.isUnder(asked.kind, k) ? asked.choices.many : OTHER_SORT;
    }

    private int addOffer(Offer offer) {
        if (offerCount >= offers.length) {
            return FULL;
        }
        offers[offerCount] = offer;
        return offerCount++;
    }

    /** The OFFER of a number, with the CHOICES that the NET gives it now; null if there is none. */
    private Offer offerAt(int offer) {
        if (offer < 0 || offer >= offerCount) {
            return null;
        }
        Offer asked = offers[offer];
        if (asked != null) {
            asked.renewChoices(net);
        }
        return asked;
    }

    private Offer offerWithChoices(int offer) {
        Offer asked = offerAt(offer);
        return asked != null && asked.choices.many > 0 ? asked : null;
    }

    /** The place of a SET among the CHOICES of an OFFER, NONE if it is none of them. */
    private static int placeIn(Offer offer, int set) {
        return offer == null ? NONE : offer.choices.placeOf(set);
    }

    private boolean someOfferNeeds(int thing) {
        for (int i = 0; i < offerCount; i++) {
            if (offers[i] != null && offers[i].needs(thing)) {
                return true;
            }
        }
        return false;
    }

    // PRICES

    public long cost(int set, int p, int q, int what) {
        if (set < 0 || set >= 1 << net.lines || !isPrice(p, q) || what < 0 || what > 1) {
            return NO;
        }
        long above = (long) net.sumOver(net.start, set) * q + (long) net.sumOver(net.rise, set) * p;
        return lowest(above, q, what);
    }

    public int best(int offer, int p, int q, int way) {
        Offer asked = offerAt(offer);
        if (asked == null || !isPrice(p, q) || way < BEST || way > BELOW) {
            return BAD;
        }
        int place = asked.choices.cheapestAt(p, q, way);
        return place < 0 ? NONE : asked.choices.sets[place];
    }

    public long least(int offer, int p, int q, int what) {
        Offer asked = offerWithChoices(offer);
        if (asked == null || !isPrice(p, q) || what < 0 || what > 1) {
            return NO;
        }
        return lowest(asked.choices.leastAt(p, q), q, what);
    }

    public int window(int p, int q, int p2, int q2) {
        if (!isPrice(p, q) || !isPrice(p2, q2) || isLess(p2, q2, p, q)) {
            return BAD;
        }
        window.become(p, q, p2, q2);
        return 1;
    }

    public long span(int offer, int set, int what) {
        Offer asked = offerAt(offer);
        int place = placeIn(asked, set);
        if (asked == null || place < 0 || what < 0 || what > 4) {
            return NO;
        }
        boolean there = asked.choices.findSpan(place, found);
        if (what == 0) {
            return there ? 1 : 0;
        }
        return there ? found[what] : NO;
    }

    public long top(int offer, int what) {
        Offer asked = offerWithChoices(offer);
        if (asked == null || what < 0 || what > 3) {
            return NO;
        }
        findTop(asked);
        return found[what];
    }

    public long ratio(int offer, int what) {
        Offer asked = offerWithChoices(offer);
        if (asked == null || what < 0 || what > 2) {
            return NO;
        }
        int place = asked.choices.leastRatio();
        if (place < 0) {
            return NO;
        }
        Choices choices = asked.choices;
        return what == 2 ? choices.sets[place] : lowest(choices.starts[place], choices.rises[place], what);
    }

    public long regret(int offer, int set, int what) {
        Offer asked = offerAt(offer);
        int place = placeIn(asked, set);
        if (asked == null || place < 0 || what < 0 || what > 1) {
            return NO;
        }
        asked.choices.findRegret(place, window, found);
        return lowest(found[0], found[1], what);
    }

    public int calm(int offer) {
        Offer asked = offerAt(offer);
        if (asked == null) {
            return BAD;
        }
        Rows bends = asked.bendsIn(window);
        int calmest = asked.choices.cheapestAt(window.p, window.q, ABOVE);
        if (calmest < 0) {
            return NONE;
        }
        for (int i = 0; i < bends.many; i++) {
            int place = asked.choices.placeOf(bends.number(i, Rows.ABOVE_THERE));
            if (place >= 0 && isCalmer(asked.choices, place, calmest)) {
                calmest = place;
            }
        }
        return asked.choices.sets[calmest];
    }

    public int why(int offer, int set, int p, int q) {
        Offer asked = offerAt(offer);
        if (asked == null || asked.kind != TREE || placeIn(asked, set) < 0 || !isPrice(p, q)) {
            return BAD;
        }
        for (int line = 0; line < net.lines; line++) {
            if ((set >> line & 1) == 0) {
                int dearest = net.dearestBetween(set, line, p, q);
                if (dearest >= 0 && net.lineCost(line, p, q) < net.lineCost(dearest, p, q)) {
                    return MOST_LINES * line + dearest;
                }
            }
        }
        return NONE;
    }

    /** LEAST bends down only, so it is greatest at an end of THE WINDOW or at a BEND. */
    private void findTop(Offer offer) {
        Rows bends = offer.bendsIn(window);
        int topP = window.p;
        int topQ = window.q;
        long most = offer.choices.leastAt(topP, topQ);
        for (int i = 0; i <= bends.many; i++) {
            boolean isBend = i < bends.many;
            int p = isBend ? bends.number(i, Rows.P) : window.p2;
            int q = isBend ? bends.number(i, Rows.Q) : window.q2;
            long least = offer.choices.leastAt(p, q);
            if (isLess(most, topQ, least, q)) {
                topP = p;
                topQ = q;
                most = least;
            }
        }
        found[0] = lowest(topP, topQ, 0);
        found[1] = lowest(topP, topQ, 1);
        found[2] = lowest(most, topQ, 0);
        found[3] = lowest(most, topQ, 1);
    }

    private boolean isCalmer(Choices choices, int place, int other) {
        choices.findRegret(other, window, found);
        long above = found[0];
        long below = found[1];
        choices.findRegret(place, window, found);
        if (isLess(found[0], found[1], above, below)) {
            return true;
        }
        return !isLess(above, below, found[0], found[1]) && place < other;
    }

    private static boolean isPrice(int p, int q) {
        return p >= -MOST_P && p <= MOST_P && q >= 1 && q <= MOST_Q;
    }

    /** Whether a fraction is less than another one; what stands below their lines is above 0. */
    private static boolean isLess(long p, long q, long p2, long q2) {
        return p * q2 < p2 * q;
    }

    /** The number above (0) or below (1) the line of a fraction in lowest terms. */
    private static long lowest(long above, long below, int what) {
        long common = commonOf(Math.abs(above), below);
        return (what == 0 ? above : below) / common;
    }

    /** The greatest number by which both can be divided; never 0, so that it can divide. */
    private static long commonOf(long a, long b) {
        for (int step = 0; step < 1000 && b != 0; step++) {
            long rest = a % b;
            a = b;
            b = rest;
        }
        return a == 0 ? 1 : a;
    }

    // BENDS and THE ROWS

    public int bends(int offer) {
        Offer asked = offerAt(offer);
        return asked == null ? BAD : asked.bendsIn(window).many;
    }

    public long bend(int offer, int i, int what) {
        Offer asked = offerAt(offer);
        return asked == null ? NO : numberOrNo(asked.bendsIn(window), i, what);
    }

    public int write(int offer) {
        Offer asked = offerAt(offer);
        if (asked == null) {
            return BAD;
        }
        rows.becomeLike(asked.bendsIn(window));
        return rows.many;
    }

    public long row(int i, int what) {
        return numberOrNo(rows, i, what);
    }

    public int forge(int i, int what, int v) {
        if (!rows.has(i, what) || v < -MOST_FORGED || v > MOST_FORGED) {
            return BAD;
        }
        rows.set(i, what, v);
        return 1;
    }

    public int check(int offer) {
        Offer asked = offerAt(offer);
        if (asked == null) {
            return BAD;
        }
        for (int i = 0; i < rows.many; i++) {
            int how = howWrong(asked.choices, i);
            if (how > 0) {
                return 8 * i + how;
            }
        }
        return rows.many < asked.bendsIn(window).many ? STATE : NONE;
    }

    private static long numberOrNo(Rows of, int i, int what) {
        return of.has(i, what) ? of.number(i, what) : NO;
    }

    /** How a ROW is WRONG, 0 if it is not; the ROWS ahead of it are taken to be right. */
    private int howWrong(Choices choices, int i) {
        int p = rows.number(i, Rows.P);
        int q = rows.number(i, Rows.Q);
        if (!isPrice(p, q) || commonOf(Math.abs(p), q) != 1 || !window.holdsInside(p, q)) {
            return 1;
        }
        if (i > 0 && !isLess(rows.number(i - 1, Rows.P), rows.number(i - 1, Rows.Q), p, q)) {
            return 2;
        }
        int below = choices.placeOf(rows.number(i, Rows.BELOW_THERE));
        if (below < 0) {
            return 3;
        }
        int above = choices.placeOf(rows.number(i, Rows.ABOVE_THERE));
        if (above < 0) {
            return 4;
        }
        long belowCost = choices.costAt(below, p, q);
        if (belowCost != choices.costAt(above, p, q)) {
            return 5;
        }
        if (choices.leastAt(p, q) < belowCost) {
            return 6;
        }
        return choices.rises[below] > choices.rises[above] ? 0 : 7;
    }

    // ACTS

    public int act(int offer, int act, int x) {
        acts.forget();
        Offer asked = offerAt(offer);
        return asked == null || act < Acts.ASKS || act > Acts.TURNS ? 0 : acts.start(asked, act, x);
    }

    public int trace(int i) {
        return i >= 0 && i < acts.ran && i < acts.kept.length ? acts.kept[i] : NONE;
    }

    public int count(int what) {
        switch (what) {
            case 0:
                return net.things;
            case 1:
                return net.lines;
            case 2:
                return offerCount;
            case 3:
                return rows.many;
            case 4:
                return acts.ran;
            default:
                return BAD;
        }
    }

    // SHEETS

    public int sheet(int sheet, int sort, int n) {
        Sheet asked = sheetAt(sheet);
        if (asked == null || sort < MISSING_SORT || sort > LONGS) {
            return BAD;
        }
        if (sort != MISSING_SORT && n > MOST_ITEMS) {
            return BAD;
        }
        if (sort != MISSING_SORT && n < 0) {
            return SIZE_BELOW_0;
        }
        asked.become(sort, n);
        return 1;
    }

    public int cell(int sheet, int i, int v) {
        Sheet asked = sheetAt(sheet);
        if (asked == null) {
            return BAD;
        }
        if (asked.sort == MISSING_SORT) {
            return MISSING;
        }
        if (!asked.holds(i, 1)) {
            return OUTSIDE;
        }
        asked.items[i] = asked.sort == BYTES ? (byte) v : v;
        return 1;
    }

    public int lay(int sheet, int sort, int i) {
        Sheet asked = sheetAt(sheet);
        if (asked == null || sort < BYTES || sort > LONGS) {
            return BAD;
        }
        // What is missing is of no sort, so it is not one of another sort either.
        if (asked.sort != MISSING_SORT && asked.sort != sort) {
            return OTHER_SORT;
        }
        if (asked.sort == MISSING_SORT) {
            return MISSING;
        }
        if (!asked.holds(i, 4)) {
            return OUTSIDE;
        }
        long[] items = asked.items;
        return line((int) items[i], (int) items[i + 1], (int) items[i + 2], (int) items[i + 3]);
    }

    public int copy(int sheet, int i, int other, int j, int n) {
        Sheet source = sheetAt(sheet);
        Sheet target = sheetAt(other);
        if (source == null || target == null) {
            return BAD;
        }
        if (source.sort == MISSING_SORT || target.sort == MISSING_SORT) {
            return MISSING;
        }
        if (source.sort != target.sort) {
            return OTHER_SORT;
        }
        if (!source.holds(i, n) || !target.holds(j, n)) {
            return OUTSIDE;
        }
        System.arraycopy(source.items, i, target.items, j, n);
        return n;
    }

    private Sheet sheetAt(int sheet) {
        return sheet >= 0 && sheet < SHEETS ? sheets[sheet] : null;
    }

    /** THINGS and LINES, and what the one step back needs. */
    private static final class Net {
        static final int NOTHING = 0, THING_CAME = 1, LINE_CAME = 2, LINE_ALTERED = 3, LINE_WENT = 4;

        final int[] from = new int[MOST_LINES];
        final int[] to = new int[MOST_LINES];
        final int[] start = new int[MOST_LINES];
        final int[] rise = new int[MOST_LINES];
        int things;
        int lines;
        /** The change that can be undone. */
        int latest = NOTHING;
        /** Another number behind each change, so that what was worked out before it shows as old. */
        int stamp;
        private int alteredLine;
        private int startBefore;
        private int riseBefore;

        boolean isThing(int thing) {
            return thing >= 0 && thing < things;
        }

        boolean isLine(int line) {
            return line >= 0 && line < lines;
        }

        int allThings() {
            return (1 << things) - 1;
        }

        int addThing() {
            if (things >= MOST_THINGS) {
                return FULL;
            }
            changed(THING_CAME);
            return things++;
        }

        int addLine(int a, int b, int newStart, int newRise) {
            if (lines >= MOST_LINES) {
                return FULL;
            }
            from[lines] = a;
            to[lines] = b;
            start[lines] = newStart;
            rise[lines] = newRise;
            changed(LINE_CAME);
            return lines++;
        }

        void changeLine(int line, int newStart, int newRise) {
            if (isLine(line)) {
                alteredLine = line;
                startBefore = start[line];
                riseBefore = rise[line];
                start[line] = newStart;
                rise[line] = newRise;
                changed(LINE_ALTERED);
            }
        }

        int dropLine() {
            changed(LINE_WENT);
            return --lines;
        }

        void stepBack() {
            switch (latest) {
                case THING_CAME:
                    things--;
                    break;
                case LINE_CAME:
                    lines--;
                    break;
                case LINE_ALTERED:
                    changeLine(alteredLine, startBefore, riseBefore);
                    break;
                case LINE_WENT:
                    // The numbers of the LINE that went still stand behind those of the others.
                    lines++;
                    break;
                default:
                    break;
            }
            changed(NOTHING);
        }

        private void changed(int how) {
            latest = how;
            stamp++;
        }

        int numberOf(int line, int what) {
            switch (what) {
                case 0:
                    return from[line];
                case 1:
                    return to[line];
                case 2:
                    return start[line];
                default:
                    return rise[line];
            }
        }

        /** The sum of a SET's STARTS or RISES. */
        int sumOver(int[] numbers, int set) {
            int sum = 0;
            for (int line = 0; line < lines; line++) {
                if ((set >> line & 1) != 0) {
                    sum += numbers[line];
                }
            }
            return sum;
        }

        /** What a LINE COSTS at p / q, times q. */
        long lineCost(int line, int p, int q) {
            return (long) start[line] * q + (long) rise[line] * p;
        }

        /** The THINGS that hang together with one by LINES of a SET, whichever way these go. */
        int hangingWith(int thing, int set) {
            int seen = 1 << thing;
            for (int round = 0; round < things; round++) {
                int before = seen;
                for (int line = 0; line < lines; line++) {
                    int ends = 1 << from[line] | 1 << to[line];
                    if ((set >> line & 1) != 0 && (seen & ends) != 0) {
                        seen |= ends;
                    }
                }
                if (seen == before) {
                    break;
                }
            }
            return seen;
        }

        /** The THINGS to which LINES lead from one, as they go, and that one. */
        int ledToFrom(int thing) {
            int seen = 1 << thing;
            for (int round = 0; round < things; round++) {
                int before = seen;
                for (int line = 0; line < lines; line++) {
                    if ((seen >> from[line] & 1) != 0) {
                        seen |= 1 << to[line];
                    }
                }
                if (seen == before) {
                    break;
                }
            }
            return seen;
        }

        /** The THINGS not of a side that have a LINE with one of some THINGS of it. */
        int beside(int some, int side) {
            int seen = 0;
            for (int line = 0; line < lines; line++) {
                int a = 1 << from[line];
                int b = 1 << to[line];
                if ((some & a) != 0 && (side & b) == 0) {
                    seen |= b;
                }
                if ((some & b) != 0 && (side & a) == 0) {
                    seen |= a;
                }
            }
            return seen;
        }

        /** The dearest LINE on the way, within a tree, between the THINGS of a LINE not of it. */
        int dearestBetween(int tree, int line, int p, int q) {
            int dearest = NONE;
            for (int other = 0; other < lines; other++) {
                if ((tree >> other & 1) != 0 && isBetween(tree, other, line)
                        && (dearest < 0 || lineCost(other, p, q) > lineCost(dearest, p, q))) {
                    dearest = other;
                }
            }
            return dearest;
        }

        /** A LINE of a tree is on the way between two THINGS if these fall apart without it. */
        private boolean isBetween(int tree, int other, int line) {
            int rest = tree & ~(1 << other);
            return (hangingWith(from[line], rest) >> to[line] & 1) == 0;
        }
    }

    /** THE WINDOW: from p / q to p2 / q2. */
    private static final class Window {
        int p = 0;
        int q = 1;
        int p2 = 10;
        int q2 = 1;
        /** Another number behind each change, as the NET has one. */
        int stamp;

        void become(int newP, int newQ, int newP2, int newQ2) {
            p = newP;
            q = newQ;
            p2 = newP2;
            q2 = newQ2;
            stamp++;
        }

        boolean holdsInside(int above, int below) {
            return isLess(p, q, above, below) && isLess(above, below, p2, q2);
        }
    }

    /** The CHOICES of an OFFER in THE ORDER, with their STARTS and RISES. */
    private static final class Choices {
        int[] sets = new int[MOST_TOLD];
        int[] starts = new int[MOST_TOLD];
        int[] rises = new int[MOST_TOLD];
        int many;

        void clear() {
            many = 0;
        }

        /** Puts a SET where THE ORDER wants it; most come in THE ORDER and go to the end. */
        void put(Net net, int set) {
            if (many >= sets.length) {
                widen();
            }
            int place = many;
            while (place > 0 && comesAhead(set, sets[place - 1])) {
                sets[place] = sets[place - 1];
                starts[place] = starts[place - 1];
                rises[place] = rises[place - 1];
                place--;
            }
            sets[place] = set;
            starts[place] = net.sumOver(net.start, set);
            rises[place] = net.sumOver(net.rise, set);
            many++;
        }

        private void widen() {
            sets = Arrays.copyOf(sets, 2 * sets.length);
            starts = Arrays.copyOf(starts, sets.length);
            rises = Arrays.copyOf(rises, sets.length);
        }

        private static boolean comesAhead(int set, int other) {
            int unlike = set ^ other;
            return (set & unlike & -unlike) != 0;
        }

        int placeOf(int set) {
            for (int i = 0; i < many; i++) {
                if (sets[i] == set) {
                    return i;
                }
            }
            return NONE;
        }

        /** What a CHOICE COSTS at p / q, times q. */
        long costAt(int place, int p, int q) {
            return (long) starts[place] * q + (long) rises[place] * p;
        }

        /** The place of BEST, ABOVE or BELOW at a PRICE, NONE without CHOICES. */
        int cheapestAt(int p, int q, int way) {
            int cheapest = NONE;
            long least = 0;
            for (int i = 0; i < many; i++) {
                long cost = costAt(i, p, q);
                if (cheapest < 0 || cost < least || cost == least && leadsAmongLike(i, cheapest, way)) {
                    cheapest = i;
                    least = cost;
                }
            }
            return cheapest;
        }

        private boolean leadsAmongLike(int i, int cheapest, int way) {
            return way == ABOVE && rises[i] < rises[cheapest] || way == BELOW && rises[i] > rises[cheapest];
        }

        /** LEAST at p / q, times q; 0 without CHOICES. */
        long leastAt(int p, int q) {
            int cheapest = cheapestAt(p, q, BEST);
            return cheapest < 0 ? 0 : costAt(cheapest, p, q);
        }

        /**
         * The CHOICE that is ABOVE from the next BEND on, where the one at a place is so up to there:
         * of those with less RISE the one whose COST meets its COST at the least PRICE.
         */
        int nextAbove(int place) {
            int next = NONE;
            for (int i = 0; i < many; i++) {
                if (rises[i] < rises[place] && (next < 0 || meetsSooner(place, i, next))) {
                    next = i;
                }
            }
            return next;
        }

        private boolean meetsSooner(int place, int i, int next) {
            long meets = (long) (starts[i] - starts[place]) * (rises[place] - rises[next]);
            long nextMeets = (long) (starts[next] - starts[place]) * (rises[place] - rises[i]);
            return meets < nextMeets || meets == nextMeets && rises[i] < rises[next];
        }

        /** Puts the SPAN of a CHOICE into 1 to 4, as span() tells it; false if it has none. */
        boolean findSpan(int place, long[] into) {
            long lowP = 0;
            long lowQ = 0;
            long highP = 0;
            long highQ = 0;
            for (int i = 0; i < many; i++) {
                // The CHOICE COSTS no more than the other one where steeper times the PRICE is at most dearer.
                long steeper = rises[place] - rises[i];
                long dearer = starts[i] - starts[place];
                if (steeper == 0 && dearer < 0) {
                    return false;
                }
                if (steeper > 0 && (highQ == 0 || isLess(dearer, steeper, highP, highQ))) {
                    highP = dearer;
                    highQ = steeper;
                }
                if (steeper < 0 && (lowQ == 0 || isLess(lowP, lowQ, -dearer, -steeper))) {
                    lowP = -dearer;
                    lowQ = -steeper;
                }
            }
            if (lowQ > 0 && highQ > 0 && isLess(highP, highQ, lowP, lowQ)) {
                return false;
            }
            into[1] = lowest(lowP, lowQ, 0);
            into[2] = lowest(lowP, lowQ, 1);
            into[3] = lowest(highP, highQ, 0);
            into[4] = lowest(highP, highQ, 1);
            return true;
        }

        /** The first CHOICE of least START by RISE; NONE if a RISE is not above 0. */
        int leastRatio() {
            int least = NONE;
            for (int i = 0; i < many; i++) {
                if (rises[i] <= 0) {
                    return NONE;
                }
                if (least < 0 || isLess(starts[i], rises[i], starts[least], rises[least])) {
                    least = i;
                }
            }
            return least;
        }

        /** Puts the REGRET of a CHOICE into 0 (above the line) and 1 (below it), not in lowest terms. */
        void findRegret(int place, Window window, long[] into) {
            long atFirst = costAt(place, window.p, window.q) - leastAt(window.p, window.q);
            long atLast = costAt(place, window.p2, window.q2) - leastAt(window.p2, window.q2);
            boolean lastIsMore = isLess(atFirst, window.q, atLast, window.q2);
            into[0] = lastIsMore ? atLast : atFirst;
            into[1] = lastIsMore ? window.q2 : window.q;
        }
    }

    /** Rows of four numbers that tell BENDS. */
    private static final class Rows {
        static final int P = 0, Q = 1, BELOW_THERE = 2, ABOVE_THERE = 3;
        private static final int WIDTH = 4;

        private int[] numbers = new int[WIDTH];
        int many;

        void clear() {
            many = 0;
        }

        boolean has(int i, int what) {
            return i >= 0 && i < many && what >= 0 && what < WIDTH;
        }

        int number(int i, int what) {
            return has(i, what) ? numbers[WIDTH * i + what] : 0;
        }

        void set(int i, int what, int v) {
            if (has(i, what)) {
                numbers[WIDTH * i + what] = v;
            }
        }

        void put(long p, long q, int below, int above) {
            makeRoomFor(many + 1);
            int at = WIDTH * many;
            numbers[at + P] = (int) lowest(p, q, 0);
            numbers[at + Q] = (int) lowest(p, q, 1);
            numbers[at + BELOW_THERE] = below;
            numbers[at + ABOVE_THERE] = above;
            many++;
        }

        void becomeLike(Rows other) {
            makeRoomFor(other.many);
            many = other.many;
            System.arraycopy(other.numbers, 0, numbers, 0, WIDTH * many);
        }

        private void makeRoomFor(int wanted) {
            if (WIDTH * wanted > numbers.length) {
                numbers = Arrays.copyOf(numbers, 2 * WIDTH * wanted);
            }
        }
    }

    /** An OFFER: its KIND, and its CHOICES and BENDS as they were last worked out. */
    private abstract static class Offer {
        private static final int NEVER = -1;

        final int number;
        final int kind;
        final Choices choices = new Choices();
        private final Rows bends = new Rows();
        /** The stamps of the NET and of THE WINDOW for which CHOICES and BENDS were worked out. */
        private int choicesStamp = NEVER;
        private int bendsStamp = NEVER;

        Offer(int number, int kind) {
            this.number = number;
            this.kind = kind;
        }

        /** Puts the CHOICES that the NET gives. */
        abstract void gather(Net net);

        /** BARS; asked only without CHOICES. */
        abstract int barsIn(Net net);

        abstract boolean needs(int thing);

        abstract int firstNumber();

        abstract int secondNumber();

        void renewChoices(Net net) {
            if (choicesStamp != net.stamp) {
                choices.clear();
                gather(net);
                choicesStamp = net.stamp;
                bendsStamp = NEVER;
            }
        }

        void outdate() {
            choicesStamp = NEVER;
        }

        /** The BENDS of the CHOICES as they stand. */
        Rows bendsIn(Window window) {
            if (bendsStamp != window.stamp) {
                bends.clear();
                findBends(window);
                bendsStamp = window.stamp;
            }
            return bends;
        }

        /** From BEND to BEND: what is ABOVE at one of them is BELOW at the next one. */
        private void findBends(Window window) {
            int place = choices.cheapestAt(window.p, window.q, ABOVE);
            for (int step = 0; step < choices.many && place >= 0; step++) {
                int next = choices.nextAbove(place);
                if (next >= 0) {
                    long p = choices.starts[next] - choices.starts[place];
                    long q = choices.rises[place] - choices.rises[next];
                    if (isLess(p, q, window.p2, window.q2)) {
                        bends.put(p, q, choices.sets[place], choices.sets[next]);
                    } else {
                        next = NONE;
                    }
                }
                place = next;
            }
        }
    }

    /** SETS that were told. */
    private static final class Told extends Offer {
        private final int[] sets = new int[MOST_TOLD];
        private int many;

        Told(int number) {
            super(number, TOLD);
        }

        int take(int set) {
            for (int i = 0; i < many; i++) {
                if (sets[i] == set) {
                    return STATE;
                }
            }
            if (many >= MOST_TOLD) {
                return FULL;
            }
            sets[many] = set;
            many++;
            outdate();
            return many;
        }

        void gather(Net net) {
            for (int i = 0; i < many; i++) {
                if (sets[i] < 1 << net.lines) {
                    choices.put(net, sets[i]);
                }
            }
        }

        int barsIn(Net net) {
            return 0;
        }

        boolean needs(int thing) {
            return false;
        }

        int firstNumber() {
            return many;
        }

        int secondNumber() {
            return 0;
        }
    }

    /** Trees over all THINGS. */
    private static final class Tree extends Offer {
        /** Each THING in a group of its own: three bits for the group of each, THING 0 lowest. */
        private static final int ALL_APART = 06543210;

        Tree(int number) {
            super(number, TREE);
        }

        void gather(Net net) {
            if (net.things > 0) {
                grow(this, net, 0, 0, net.things - 1, ALL_APART);
            }
        }

        /** All trees of what is chosen and as many LINES as are missing, from a LINE on; in THE ORDER. */
        private static void grow(Tree tree, Net net, int line, int chosen, int missing, int groups) {
            if (missing == 0) {
                tree.choices.put(net, chosen);
                return;
            }
            // Too few are left; with one missing this ends behind the last LINE at the latest.
            if (line + missing > net.lines) {
                return;
            }
            int group = groupOf(groups, net.from[line]);
            int other = groupOf(groups, net.to[line]);
            if (group != other) {
                int joined = join(groups, group, other, net.things);
                grow(tree, net, line + 1, chosen | 1 << line, missing - 1, joined);
            }
            grow(tree, net, line + 1, chosen, missing, groups);
        }

        private static int groupOf(int groups, int thing) {
            return groups >> 3 * thing & 7;
        }

        private static int join(int groups, int group, int other, int things) {
            int joined = groups;
            for (int thing = 0; thing < things; thing++) {
                if (groupOf(groups, thing) == other) {
                    joined ^= (other ^ group) << 3 * thing;
                }
            }
            return joined;
        }

        int barsIn(Net net) {
            return net.things == 0 ? 0 : net.hangingWith(0, (1 << net.lines) - 1);
        }

        boolean needs(int thing) {
            return false;
        }

        int firstNumber() {
            return 0;
        }

        int secondNumber() {
            return 0;
        }
    }

    /** Ways from a THING to another one. */
    private static final class Way extends Offer {
        private final int first;
        private final int last;

        Way(int number, int first, int last) {
            super(number, WAY);
            this.first = first;
            this.last = last;
        }

        void gather(Net net) {
            walk(this, net, first, 1 << first, 0, net.things);
        }

        /** All ways on from a THING over THINGS not yet seen, with as many LINES as are left at most. */
        private static void walk(Way way, Net net, int at, int seen, int chosen, int left) {
            if (at == way.last) {
                way.choices.put(net, chosen);
                return;
            }
            if (left <= 0) {
                return;
            }
            for (int line = 0; line < net.lines; line++) {
                int next = net.to[line];
                if (net.from[line] == at && (seen >> next & 1) == 0) {
                    walk(way, net, next, seen | 1 << next, chosen | 1 << line, left - 1);
                }
            }
        }

        int barsIn(Net net) {
            return net.ledToFrom(first);
        }

        boolean needs(int thing) {
            return first == thing || last == thing;
        }

        int firstNumber() {
            return first;
        }

        int secondNumber() {
            return last;
        }
    }

    /** Pairings of a side's THINGS with all others. */
    private static final class Pairing extends Offer {
        private final int side;

        Pairing(int number, int side) {
            super(number, PAIRING);
            this.side = side;
        }

        void gather(Net net) {
            pair(this, net, 0, 0, net.allThings());
        }

        /** All pairings of what is chosen and LINES from one on that pair the free THINGS; in THE ORDER. */
        private static void pair(Pairing pairing, Net net, int line, int chosen, int free) {
            if (free == 0) {
                pairing.choices.put(net, chosen);
                return;
            }
            if (line >= net.lines) {
                return;
            }
            int ends = 1 << net.from[line] | 1 << net.to[line];
            int endsOfSide = ends & pairing.side;
            boolean crosses = endsOfSide != 0 && endsOfSide != ends;
            if (crosses && (free & ends) == ends) {
                pair(pairing, net, line + 1, chosen | 1 << line, free & ~ends);
            }
            pair(pairing, net, line + 1, chosen, free);
        }

        int barsIn(Net net) {
            int others = net.allThings() & ~side;
            int more = Integer.bitCount(side) - Integer.bitCount(others);
            if (more != 0) {
                return more > 0 ? side : others;
            }
            for (int some = 1; some <= side; some++) {
                if ((some & ~side) == 0 && Integer.bitCount(net.beside(some, side)) < Integer.bitCount(some)) {
                    return some;
                }
            }
            return 0;
        }

        boolean needs(int thing) {
            return (side >> thing & 1) != 0;
        }

        int firstNumber() {
            return side;
        }

        int secondNumber() {
            return 0;
        }
    }

    /** The ACTS of OFFERS, and THE TRACE of the latest one. */
    private static final class Acts {
        static final int ASKS = 0, SHOWS = 1, TURNS = 2;
        private static final int ACTS = 3, MOST_KEPT = 40, DEEPEST = 40;
        /** The KIND above each KIND. */
        private static final int[] KIND_ABOVE = {NONE, TOLD, TOLD, TREE};
        /** The body of each KIND for each act, 0 where it has none. */
        private static final int[] BODIES = {10, 11, 12, 20, 0, 21, 0, 30, 0, 40, 41, 0};

        final int[] kept = new int[MOST_KEPT];
        int ran;

        static boolean isUnder(int kind, int above) {
            int at = kind;
            for (int step = 0; step < KIND_ABOVE.length && at > above; step++) {
                at = kindAbove(at);
            }
            return at == above;
        }

        private static int kindAbove(int kind) {
            return kind >= 0 && kind < KIND_ABOVE.length ? KIND_ABOVE[kind] : NONE;
        }

        void forget() {
            ran = 0;
        }

        int start(Offer offer, int act, int x) {
            return play(this, offer, offer.kind, act, x, 0);
        }

        /** What the body answers that a KIND, or the next one above it that has one, has for an act. */
        private static int play(Acts acts, Offer offer, int from, int act, int x, int depth) {
            int kind = kindWithBody(from, act);
            if (kind < 0 || depth > DEEPEST) {
                return 0;
            }
            int own = offer.kind;
            int above = kindAbove(kind);
            int deeper = depth + 1;
            int body = BODIES[ACTS * kind + act];
            acts.note(body);
            switch (body) {
                case 10:
                    return x + offer.choices.many;
                case 11:
                    return play(acts, offer, own, ASKS, x, deeper) * 3;
                case 12:
                    return play(acts, offer, own, SHOWS, x, deeper)
                            - play(acts, offer, own, ASKS, x + offer.number, deeper);
                case 20:
                    return play(acts, offer, above, ASKS, x, deeper) ^ 5;
                case 21:
                    return play(acts, offer, above, TURNS, x, deeper) + play(acts, offer, own, ASKS, 0, deeper);
                case 30:
                    return play(acts, offer, above, SHOWS, x - 1, deeper) * 2;
                case 40:
                    return play(acts, offer, above, ASKS, x, deeper) + offer.number;
                case 41:
                    return play(acts, offer, above, SHOWS, x, deeper) - play(acts, offer, above, ASKS, x, deeper);
                default:
                    return 0;
            }
        }

        /** The first KIND, from one on upwards, that has a body for an act; NONE if none has. */
        private static int kindWithBody(int from, int act) {
            int kind = from;
            for (int step = 0; step < KIND_ABOVE.length && kind >= 0; step++) {
                int at = ACTS * kind + act;
                if (at >= 0 && at < BODIES.length && BODIES[at] != 0) {
                    return kind;
                }
                kind = kindAbove(kind);
            }
            return NONE;
        }

        private void note(int body) {
            if (ran >= 0 && ran < kept.length) {
                kept[ran] = body;
            }
            ran++;
        }
    }

    /** A row of numbers of one sort, or missing. */
    private static final class Sheet {
        int sort = MISSING_SORT;
        private int size;
        final long[] items = new long[MOST_ITEMS];

        void become(int newSort, int n) {
            sort = newSort;
            size = newSort == MISSING_SORT ? 0 : n;
            Arrays.fill(items, 0);
        }

        /** Whether n items from i on are all there; the sum is a long, so that it can't wrap. */
        boolean holds(int i, int n) {
            return i >= 0 && n >= 0 && (long) i + n <= size;
        }
    }
}
