/** A plane that curves cut into cells; ../shared/DOC.md tells the terms and the promises. */
public final class CellPlane {
    public static final int NONE = -1, UNKNOWN = -101, OUTSIDE = -102, STATE = -103, FULL = -104;

    private static final int PARABOLA = 0, LINE = 1, LEVEL = 2, UPRIGHT = 3, FALLING = 4, KINDS = 5;
    private static final int MOST_CURVES = 4, MOST_SEEN = 6, MOST_LETTERS = 24, MOST_ANSWERS = 8;
    // Six pairs of curves meet twice each at most; with an upright one there are fewer pairs.
    private static final int MOST_POINTS = 12, MOST_STACKS = 2 * MOST_POINTS + 1;
    private static final int MOST_CELLS_OF_STACK = 2 * MOST_CURVES + 1;
    private static final int MOST_CELLS = MOST_STACKS * MOST_CELLS_OF_STACK;
    private static final int REACH = 9;

    private final Page page = new Page();
    private final Row row = new Row();
    private final Row keptRow = new Row();
    private final Row fewerRow = new Row();
    private final Seen seen = new Seen();
    private final Seen keptSeen = new Seen();
    private final Stacks stacks = new Stacks();
    private final Stacks fewerStacks = new Stacks();
    private final Form asked = new Form();
    private final Groups groups = new Groups();
    private final Dice thrown = new Dice();
    private final Ring ring = new Ring();
    private boolean imageStands = false;
    private int planesRead = 0;
    private int sentences = 0;
    private int nextName = 1;

    public CellPlane() {
    }

    // ---- the plane

    public int letter(int code) {
        if (code < 1 || code > 126) {
            return OUTSIDE;
        }
        return page.append(code) ? page.size : FULL;
    }

    public int blank() {
        int had = page.size;
        page.size = 0;
        return had;
    }

    public int fault() {
        return page.firstFault();
    }

    public int plane() {
        if (!page.isPlane()) {
            return STATE;
        }
        row.size = 0;
        for (int at = 0; at < page.size; at += Page.STEP) {
            int b = page.numberAt(at + 1);
            int c = page.numberAt(at + 3);
            appendCurve(page.kindAt(at), b, c);
        }
        page.size = 0;
        seen.size = 0;
        imageStands = false;
        planesRead++;
        stacks.build(row);
        return row.size;
    }

    public int curve(int curve, int what) {
        if (!row.has(curve)) {
            return UNKNOWN;
        }
        Curve one = row.all[curve];
        switch (what) {
            case 0:
                return one.kind;
            case 1:
                return one.b + REACH;
            case 2:
                return one.c + REACH;
            case 3:
                return one.name;
            case 4:
                return seen.sortsOf(curve, one);
            case 5:
                return Seen.nextAsk(seen.sortsOf(curve, one), one);
            default:
                return OUTSIDE;
        }
    }

    public int as(int curve, int kind) {
        if (!row.has(curve)) {
            return UNKNOWN;
        }
        if (!isKind(kind)) {
            return OUTSIDE;
        }
        return row.all[curve].isSuch(kind) ? curve : NONE;
    }

    public int point(int point, int what) {
        if (point < 0 || point >= stacks.points) {
            return UNKNOWN;
        }
        switch (what) {
            case 0:
                return 100000 + stacks.roots[point].thousandths();
            case 1:
                return stacks.roots[point].isFraction() ? 1 : 0;
            case 2:
                return stacks.pairsMeetingAt(point);
            case 3:
                return stacks.uprightsAt(point);
            default:
                return OUTSIDE;
        }
    }

    public int stack(int stack) {
        return stacks.has(stack) ? stacks.tops[stack] + 1 : UNKNOWN;
    }

    public int cell(int stack, int cell, int curve) {
        if (!stacks.hasCell(stack, cell) || !row.has(curve)) {
            return UNKNOWN;
        }
        return stacks.sideOf(stack, cell, curve);
    }

    public int neighbours(int stack, int cell) {
        return stacks.hasCell(stack, cell) ? stacks.neighboursOf(stack, cell) : UNKNOWN;
    }

    // ---- what is done

    public int put(int kind, int b, int c) {
        if (!isKind(kind) || !isNear(b) || !isNear(c)) {
            return OUTSIDE;
        }
        if (row.size == 0) {
            return STATE;
        }
        if (row.size >= MOST_CURVES) {
            return FULL;
        }
        appendCurve(kind, b, c);
        stacks.build(row);
        return row.size;
    }

    public int take(int curve) {
        if (!row.has(curve)) {
            return UNKNOWN;
        }
        if (row.size == 1) {
            return STATE;
        }
        int name = row.all[curve].name;
        row.remove(curve);
        stacks.build(row);
        return name;
    }

    public int move(int curve, int b, int c) {
        if (!row.has(curve)) {
            return UNKNOWN;
        }
        if (!isNear(b) || !isNear(c)) {
            return OUTSIDE;
        }
        row.all[curve].b = b;
        row.all[curve].c = c;
        stacks.build(row);
        return stacks.cells();
    }

    public int change(int curve, int kind) {
        if (!row.has(curve)) {
            return UNKNOWN;
        }
        if (!isKind(kind)) {
            return OUTSIDE;
        }
        int was = row.all[curve].kind;
        row.all[curve].kind = kind;
        stacks.build(row);
        return was;
    }

    public int mirror() {
        if (row.size == 0) {
            return STATE;
        }
        for (int curve = 0; curve < row.size; curve++) {
            row.all[curve].turnOver();
        }
        stacks.build(row);
        return stacks.cells();
    }

    // ---- what is decided

    public int sentence(int first, int second, int mode, int form) {
        if (!isBit(first) || !isBit(second) || !isBit(mode) || !Form.isForm(form)) {
            return OUTSIDE;
        }
        if (row.size == 0) {
            return STATE;
        }
        asked.read(mode, form);
        int answer = isSo(first, second) ? 1 : 0;
        ring.append(answer);
        sentences++;
        return answer;
    }

    public int pieces(int mode, int form) {
        if (!isBit(mode) || !Form.isForm(form)) {
            return OUTSIDE;
        }
        if (row.size == 0) {
            return STATE;
        }
        asked.read(mode, form);
        return groups.number(stacks, asked);
    }

    public int loose() {
        if (row.size == 0) {
            return STATE;
        }
        if (row.size == 1) {
            return NONE;
        }
        int best = NONE;
        int fewest = MOST_CELLS + 1;
        for (int curve = 0; curve < row.size; curve++) {
            fewerRow.copy(row);
            fewerRow.remove(curve);
            fewerStacks.build(fewerRow);
            if (fewerStacks.cells() < fewest) {
                fewest = fewerStacks.cells();
                best = curve;
            }
        }
        return best;
    }

    // ---- what is seen

    public int see(int curve, int x, int y, int how) {
        if (!row.has(curve)) {
            return UNKNOWN;
        }
        if (!isNear(x) || !isNear(y) || how < 0 || how > 2) {
            return OUTSIDE;
        }
        return seen.append(curve, x, y, how) ? seen.size : FULL;
    }

    public int forget() {
        int was = seen.size;
        seen.size = 0;
        return was;
    }

    // ---- what is kept across all calls

    public int dice(int sides) {
        if (sides < 1 || sides > 1000) {
            return OUTSIDE;
        }
        return thrown.next(sides);
    }

    public int latest(int number) {
        return number < 0 || number >= ring.size ? UNKNOWN : ring.back(number);
    }

    // ---- what is told of all

    public int image() {
        if (row.size == 0) {
            return STATE;
        }
        keptRow.copy(row);
        keptSeen.copy(seen);
        imageStands = true;
        return row.size;
    }

    public int restore() {
        if (!imageStands) {
            return STATE;
        }
        row.copy(keptRow);
        seen.copy(keptSeen);
        stacks.build(row);
        return row.size;
    }

    public int count(int what) {
        switch (what) {
            case 0:
                return row.size;
            case 1:
                return stacks.points;
            case 2:
                return stacks.size;
            case 3:
                return stacks.cells();
            case 4:
                return stacks.sections();
            case 5:
                return seen.size;
            case 6:
                return page.size;
            case 7:
                return planesRead;
            case 8:
                return sentences;
            case 9:
                return nextName;
            case 10:
                return ring.size;
            default:
                return OUTSIDE;
        }
    }

    public long digest() {
        long h = mixStacks(mixPoints(mixCurves(1433)));
        if (row.size > 0) {
            h = mix(h, pieces(0, 1000));
        }
        for (int number = 0; number < ring.size; number++) {
            h = mix(h, ring.back(number));
        }
        for (int at = 0; at < page.size; at++) {
            h = mix(h, page.codes[at]);
        }
        for (int what = 0; what <= 10; what++) {
            h = mix(h, count(what));
        }
        return h;
    }

    private static long mix(long h, int number) {
        return 31 * h + number;
    }

    private long mixCurves(long start) {
        long h = start;
        for (int curve = 0; curve < row.size; curve++) {
            for (int what = 0; what <= 5; what++) {
                h = mix(h, curve(curve, what));
            }
        }
        return h;
    }

    private long mixPoints(long start) {
        long h = start;
        for (int point = 0; point < stacks.points; point++) {
            for (int what = 0; what <= 3; what++) {
                h = mix(h, point(point, what));
            }
        }
        return h;
    }

    private long mixStacks(long start) {
        long h = start;
        for (int stack = 0; stack < stacks.size; stack++) {
            h = mix(h, stacks.tops[stack] + 1);
            for (int cell = 0; cell <= stacks.tops[stack]; cell++) {
                for (int curve = 0; curve < row.size; curve++) {
                    h = mix(h, stacks.sideOf(stack, cell, curve));
                }
            }
        }
        return h;
    }

    private static boolean isKind(int kind) {
        return kind >= 0 && kind < KINDS;
    }

    private static boolean isNear(int number) {
        return number >= -REACH && number <= REACH;
    }

    private static boolean isBit(int number) {
        return number == 0 || number == 1;
    }

    private void appendCurve(int kind, int b, int c) {
        if (row.append(kind, b, c, nextName)) {
            nextName++;
        }
    }

    private boolean isSo(int first, int second) {
        boolean all = first == 1;
        for (int stack = 0; stack < stacks.size; stack++) {
            if (isSoOver(stack, second) != all) {
                return !all;
            }
        }
        return all;
    }

    private boolean isSoOver(int stack, int second) {
        boolean all = second == 1;
        for (int cell = 0; cell <= stacks.tops[stack]; cell++) {
            if (asked.holdsIn(stacks, stack, cell) != all) {
                return !all;
            }
        }
        return all;
    }

    /** The letters that have come and are not read yet. */
    private static final class Page {
        // A curve has five letters, and one stands between two curves.
        static final int STEP = 6, LONGEST = STEP * MOST_CURVES - 1;

        final int[] codes = new int[MOST_LETTERS];
        int size = 0;

        boolean append(int code) {
            if (size >= MOST_LETTERS) {
                return false;
            }
            codes[size] = code;
            size++;
            return true;
        }

        int firstFault() {
            for (int at = 0; at < size; at++) {
                if (!fits(at)) {
                    return at;
                }
            }
            return size;
        }

        boolean isPlane() {
            return size % STEP == STEP - 1 && firstFault() == size;
        }

        private boolean fits(int at) {
            int code = codes[at];
            if (at >= LONGEST) {
                return false;
            }
            switch (at % STEP) {
                case 0:
                    return kindAt(at) != NONE;
                case 1:
                case 3:
                    return code == '+' || code == '-';
                case 2:
                case 4:
                    return code >= '0' && code <= '9';
                default:
                    return code == ',';
            }
        }

        int kindAt(int at) {
            switch (codes[at]) {
                case 'p':
                    return PARABOLA;
                case 'l':
                    return LINE;
                case 'h':
                    return LEVEL;
                case 'u':
                    return UPRIGHT;
                case 'f':
                    return FALLING;
                default:
                    return NONE;
            }
        }

        int numberAt(int at) {
            int digit = codes[at + 1] - '0';
            return codes[at] == '-' ? -digit : digit;
        }
    }

    private static final class Curve {
        int kind = 0;
        int b = 0;
        int c = 0;
        int name = 0;

        void write(int newKind, int newB, int newC, int newName) {
            kind = newKind;
            b = newB;
            c = newC;
            name = newName;
        }

        boolean isUpright() {
            return kind == UPRIGHT;
        }

        boolean isSuch(int wanted) {
            // All are curves, and the kind of plain curves has the name of all.
            return wanted == PARABOLA || wanted == kind || wanted == LINE && kind == LEVEL;
        }

        static int squareOf(int kind) {
            return kind == PARABOLA ? 1 : kind == FALLING ? -1 : 0;
        }

        int slopeAs(int otherKind) {
            return otherKind == LEVEL ? 0 : b;
        }

        int sideAs(int otherKind, int x, int y) {
            int more = otherKind == UPRIGHT
                    ? c - x
                    : squareOf(otherKind) * x * x + slopeAs(otherKind) * x + c - y;
            return Integer.compare(more, 0) + 1;
        }

        void turnOver() {
            b = -b;
            if (isUpright()) {
                c = -c;
            }
        }
    }

    /** The curves of a plane in their order; none of them: there is no plane. */
    private static final class Row {
        final Curve[] all = new Curve[MOST_CURVES];
        int size = 0;

        Row() {
            for (int curve = 0; curve < MOST_CURVES; curve++) {
                all[curve] = new Curve();
            }
        }

        boolean has(int curve) {
            return curve >= 0 && curve < size;
        }

        boolean append(int kind, int b, int c, int name) {
            if (size >= MOST_CURVES) {
                return false;
            }
            all[size].write(kind, b, c, name);
            size++;
            return true;
        }

        void remove(int curve) {
            if (!has(curve)) {
                return;
            }
            for (int to = curve; to < size - 1; to++) {
                Curve from = all[to + 1];
                all[to].write(from.kind, from.b, from.c, from.name);
            }
            size--;
        }

        void copy(Row other) {
            for (int curve = 0; curve < other.size; curve++) {
                Curve from = other.all[curve];
                all[curve].write(from.kind, from.b, from.c, from.name);
            }
            size = other.size;
        }
    }

    /** What is seen, by the numbers of curves and not by the curves themselves. */
    private static final class Seen {
        final int[] curves = new int[MOST_SEEN];
        final int[] xs = new int[MOST_SEEN];
        final int[] ys = new int[MOST_SEEN];
        final int[] hows = new int[MOST_SEEN];
        int size = 0;

        boolean append(int curve, int x, int y, int how) {
            if (size >= MOST_SEEN) {
                return false;
            }
            curves[size] = curve;
            xs[size] = x;
            ys[size] = y;
            hows[size] = how;
            size++;
            return true;
        }

        void copy(Seen other) {
            for (int at = 0; at < other.size; at++) {
                curves[at] = other.curves[at];
                xs[at] = other.xs[at];
                ys[at] = other.ys[at];
                hows[at] = other.hows[at];
            }
            size = other.size;
        }

        int sortsOf(int number, Curve curve) {
            int sorts = 0;
            for (int kind = 0; kind < KINDS; kind++) {
                if (canBe(kind, number, curve)) {
                    sorts |= 1 << kind;
                }
            }
            return sorts;
        }

        private boolean canBe(int kind, int number, Curve curve) {
            for (int at = 0; at < size; at++) {
                if (curves[at] == number && curve.sideAs(kind, xs[at], ys[at]) != hows[at]) {
                    return false;
                }
            }
            return true;
        }

        static int nextAsk(int sorts, Curve curve) {
            if (sorts == 0) {
                return NONE;
            }
            int best = -REACH;
            int fewest = KINDS + 1;
            for (int x = -REACH; x <= REACH; x++) {
                int left = leftAtWorst(sorts, curve, x);
                if (left < fewest) {
                    fewest = left;
                    best = x;
                }
            }
            return best + REACH;
        }

        private static int leftAtWorst(int sorts, Curve curve, int x) {
            int below = 0;
            int on = 0;
            int above = 0;
            for (int kind = 0; kind < KINDS; kind++) {
                if ((sorts >> kind & 1) == 1) {
                    int side = curve.sideAs(kind, x, 0);
                    below += side == 0 ? 1 : 0;
                    on += side == 1 ? 1 : 0;
                    above += side == 2 ? 1 : 0;
                }
            }
            return Math.max(below, Math.max(on, above));
        }
    }

    /** Signs and roots of whole numbers, without any rounding. */
    private static final class Exact {
        /** The sign of u and v times the root of d. */
        static int sign(long u, long v, long d) {
            int left = Long.compare(u, 0);
            int right = d == 0 ? 0 : Long.compare(v, 0);
            if (left == 0 || left == right) {
                return right;
            }
            return right == 0 ? left : left * Long.compare(u * u, v * v * d);
        }

        /** The sign of u, v times the root of d, and w times the root of e. */
        static int sign(long u, long v, long d, long w, long e) {
            int left = sign(u, v, d);
            int right = sign(0, w, e);
            if (left == 0 || left == right) {
                return right;
            }
            // The two sides pull apart: the greater one, by its square, tells.
            return right == 0 ? left : left * sign(u * u + v * v * d - w * w * e, 2 * u * v, d);
        }

        static long rootDown(long square) {
            long root = 0;
            for (long bit = 1 << 15; bit > 0; bit >>= 1) {
                if ((root + bit) * (root + bit) <= square) {
                    root += bit;
                }
            }
            return root;
        }
    }

    /** An x of the base: whole, and way times the root of under, by part; way is 0 for fractions. */
    private static final class Root {
        long whole = 0;
        long way = 0;
        long under = 0;
        long part = 1;

        void write(long newWhole, long newWay, long newUnder, long newPart) {
            long turn = newPart < 0 ? -1 : 1;
            whole = turn * newWhole;
            way = turn * newWay;
            under = newUnder;
            part = turn * newPart;
        }

        boolean isFraction() {
            return way == 0;
        }

        int orderTo(Root other) {
            long u = whole * other.part - other.whole * part;
            return Exact.sign(u, way * other.part, under, -other.way * part, other.under);
        }

        /** The sign that a times x times x, b times x, and c have here. */
        int signOf(long a, long b, long c) {
            long u = a * (whole * whole + way * way * under) + (b * whole + c * part) * part;
            long v = way * (2 * a * whole + b * part);
            return Exact.sign(u, v, under);
        }

        int thousandths() {
            if (part < 1) {
                return 0;
            }
            // What is under the root is no square here, so its root is never whole.
            long down = Exact.rootDown(1000000 * under);
            long rounded = way > 0 ? down : way < 0 ? -down - 1 : 0;
            return (int) Math.floorDiv(1000 * whole + rounded, part);
        }
    }

    /** The points of the base, the stacks over it, and at which cell of each stack a curve is. */
    private static final class Stacks {
        final Root[] roots = new Root[MOST_POINTS];
        int points = 0;
        int size = 0;
        int curves = 0;
        /** The number of the topmost cell of each stack. */
        final int[] tops = new int[MOST_STACKS];
        /** By stack and curve: the cell that the curve is; of an upright one, the stack that it is. */
        private final int[] places = new int[MOST_STACKS * MOST_CURVES];
        private final boolean[] upright = new boolean[MOST_CURVES];
        private final int[] squares = new int[MOST_CURVES];
        private final int[] slopes = new int[MOST_CURVES];
        private final int[] heights = new int[MOST_CURVES];
        /** By two curves: how the first one's y is to the second one's, in the stack at work. */
        private final int[] signs = new int[MOST_CURVES * MOST_CURVES];

        Stacks() {
            for (int point = 0; point < MOST_POINTS; point++) {
                roots[point] = new Root();
            }
        }

        void build(Row row) {
            readCurves(row);
            points = 0;
            for (int one = 0; one < curves; one++) {
                if (upright[one]) {
                    enter(heights[one], 0, 0, 1);
                }
                for (int other = 0; other < one; other++) {
                    meet(one, other);
                }
            }
            size = 2 * points + 1;
            comeFromFarLeft();
            settle(0);
            for (int point = 0; point < points; point++) {
                stopAt(roots[point]);
                settle(2 * point + 1);
                goOnFrom(roots[point]);
                settle(2 * point + 2);
            }
            placeUprights();
        }

        private void readCurves(Row row) {
            curves = row.size;
            for (int curve = 0; curve < curves; curve++) {
                Curve one = row.all[curve];
                upright[curve] = one.isUpright();
                squares[curve] = Curve.squareOf(one.kind);
                slopes[curve] = one.slopeAs(one.kind);
                heights[curve] = one.c;
            }
        }

        private void meet(int one, int other) {
            if (upright[one] || upright[other]) {
                return;
            }
            long a = squares[one] - squares[other];
            long b = slopes[one] - slopes[other];
            long c = heights[one] - heights[other];
            if (a == 0) {
                enter(-c, 0, 0, b);
                return;
            }
            long under = b * b - 4 * a * c;
            if (under < 0) {
                return;
            }
            long root = Exact.rootDown(under);
            if (root * root == under) {
                enter(-b - root, 0, 0, 2 * a);
                enter(-b + root, 0, 0, 2 * a);
            } else {
                enter(-b, -1, under, 2 * a);
                enter(-b, 1, under, 2 * a);
            }
        }

        /** A part of 0 is of two that never meet or always do: no point comes of it. */
        private void enter(long whole, long way, long under, long part) {
            if (part == 0 || points >= MOST_POINTS) {
                return;
            }
            // The first one out of use is written before its place in the row is known.
            Root fresh = roots[points];
            fresh.write(whole, way, under, part);
            int at = 0;
            for (; at < points; at++) {
                int order = roots[at].orderTo(fresh);
                if (order == 0) {
                    return;
                }
                if (order > 0) {
                    break;
                }
            }
            for (int to = points; to > at; to--) {
                roots[to] = roots[to - 1];
            }
            roots[at] = fresh;
            points++;
        }

        private void comeFromFarLeft() {
            for (int one = 0; one < curves; one++) {
                for (int other = 0; other < one; other++) {
                    int order = Integer.compare(squares[one], squares[other]);
                    if (order == 0) {
                        order = Integer.compare(slopes[other], slopes[one]);
                    }
                    if (order == 0) {
                        order = Integer.compare(heights[one], heights[other]);
                    }
                    note(one, other, order);
                }
            }
        }

        private void stopAt(Root root) {
            for (int one = 0; one < curves; one++) {
                for (int other = 0; other < one; other++) {
                    note(one, other, root.signOf(squares[one] - squares[other],
                            slopes[one] - slopes[other], heights[one] - heights[other]));
                }
            }
        }

        /** Right behind a root those that meet there part as their first or second slopes differ. */
        private void goOnFrom(Root root) {
            for (int one = 0; one < curves; one++) {
                for (int other = 0; other < one; other++) {
                    int order = signs[MOST_CURVES * one + other];
                    int bend = squares[one] - squares[other];
                    if (order == 0) {
                        order = root.signOf(0, 2 * bend, slopes[one] - slopes[other]);
                    }
                    note(one, other, order == 0 ? Integer.compare(bend, 0) : order);
                }
            }
        }

        private void note(int one, int other, int order) {
            signs[MOST_CURVES * one + other] = order;
            signs[MOST_CURVES * other + one] = -order;
        }

        private void settle(int stack) {
            int sections = 0;
            for (int curve = 0; curve < curves; curve++) {
                if (isFirstOfItsY(curve)) {
                    sections++;
                }
                places[MOST_CURVES * stack + curve] = 2 * sectionsBelow(curve) + 1;
            }
            tops[stack] = 2 * sections;
        }

        private boolean isFirstOfItsY(int curve) {
            for (int other = 0; other < curve; other++) {
                if (!upright[other] && signs[MOST_CURVES * curve + other] == 0) {
                    return false;
                }
            }
            return !upright[curve];
        }

        private int sectionsBelow(int curve) {
            int below = 0;
            for (int other = 0; other < curves; other++) {
                if (signs[MOST_CURVES * curve + other] > 0 && isFirstOfItsY(other)) {
                    below++;
                }
            }
            return below;
        }

        private void placeUprights() {
            for (int curve = 0; curve < curves; curve++) {
                if (upright[curve]) {
                    int own = stackAt(heights[curve]);
                    for (int stack = 0; stack < size; stack++) {
                        places[MOST_CURVES * stack + curve] = own;
                    }
                }
            }
        }

        private int stackAt(int x) {
            for (int point = 0; point < points; point++) {
                if (roots[point].signOf(0, 1, -x) == 0) {
                    return 2 * point + 1;
                }
            }
            return 0;
        }

        boolean has(int stack) {
            return stack >= 0 && stack < size;
        }

        boolean hasCell(int stack, int cell) {
            return has(stack) && cell >= 0 && cell <= tops[stack];
        }

        int sections() {
            int all = 0;
            for (int stack = 0; stack < size; stack++) {
                all += tops[stack] / 2;
            }
            return all;
        }

        int cells() {
            return size + 2 * sections();
        }

        int sideOf(int stack, int cell, int curve) {
            int here = upright[curve] ? stack : cell;
            return Integer.compare(places[MOST_CURVES * stack + curve], here) + 1;
        }

        int uprightsAt(int point) {
            int found = 0;
            for (int curve = 0; curve < curves; curve++) {
                if (upright[curve] && places[curve] == 2 * point + 1) {
                    found++;
                }
            }
            return found;
        }

        int pairsMeetingAt(int point) {
            int found = 0;
            for (int one = 0; one < curves; one++) {
                for (int other = 0; other < one; other++) {
                    if (!upright[one] && !upright[other] && meetAt(point, one, other)) {
                        found++;
                    }
                }
            }
            return found;
        }

        /** Two that are together ahead of the point as well are the same function. */
        private boolean meetAt(int point, int one, int other) {
            int ahead = MOST_CURVES * 2 * point;
            int there = ahead + MOST_CURVES;
            return places[there + one] == places[there + other]
                    && places[ahead + one] != places[ahead + other];
        }

        int neighboursOf(int stack, int cell) {
            int found = (cell > 0 ? 1 : 0) + (cell < tops[stack] ? 1 : 0);
            for (int beside = stack - 1; beside <= stack + 1; beside += 2) {
                if (has(beside)) {
                    found += stack % 2 == 0
                            ? highestBeside(stack, cell, beside) - lowestBeside(stack, cell, beside) + 1
                            : comingTo(stack, cell, beside);
                }
            }
            return found;
        }

        private int comingTo(int stack, int cell, int stretch) {
            int found = 0;
            for (int from = 0; from <= tops[stretch]; from++) {
                if (lowestBeside(stretch, from, stack) <= cell
                        && cell <= highestBeside(stretch, from, stack)) {
                    found++;
                }
            }
            return found;
        }

        /** The lowest neighbour that a cell over a stretch has in a stack over a point beside it. */
        int lowestBeside(int stack, int cell, int beside) {
            if (cell == 0) {
                return 0;
            }
            return sectionBeside(stack, cell % 2 == 1 ? cell : cell - 1, beside);
        }

        int highestBeside(int stack, int cell, int beside) {
            if (cell == tops[stack]) {
                return tops[beside];
            }
            return sectionBeside(stack, cell % 2 == 1 ? cell : cell + 1, beside);
        }

        private int sectionBeside(int stack, int section, int beside) {
            for (int curve = 0; curve < curves; curve++) {
                if (!upright[curve] && places[MOST_CURVES * stack + curve] == section) {
                    return places[MOST_CURVES * beside + curve];
                }
            }
            return 0;
        }
    }

    private static final class Form {
        private final int[] figures = new int[MOST_CURVES];
        private boolean forAll = true;

        static boolean isForm(int form) {
            return form >= 0 && form <= 6666 && form / 100 % 10 <= 6 && form / 10 % 10 <= 6 && form % 10 <= 6;
        }

        void read(int mode, int form) {
            forAll = mode == 0;
            int rest = form;
            for (int curve = MOST_CURVES - 1; curve >= 0; curve--) {
                figures[curve] = rest % 10;
                rest /= 10;
            }
        }

        boolean holdsIn(Stacks stacks, int stack, int cell) {
            for (int curve = 0; curve < stacks.curves; curve++) {
                if (figures[curve] != 0 && allows(figures[curve], stacks.sideOf(stack, cell, curve)) != forAll) {
                    return !forAll;
                }
            }
            return forAll;
        }

        private static boolean allows(int figure, int side) {
            switch (figure) {
                case 1:
                    return side == 0;
                case 2:
                    return side == 1;
                case 3:
                    return side == 2;
                case 4:
                    return side != 1;
                case 5:
                    return side != 0;
                default:
                    return side != 2;
            }
        }
    }

    /** Joins cells in which a form holds, neighbour by neighbour. */
    private static final class Groups {
        /** By cell: another one of the same piece, nearer to the one that stands for all of it; itself. */
        private final int[] nearer = new int[MOST_CELLS];
        private int pieces = 0;

        int number(Stacks stacks, Form form) {
            pieces = 0;
            for (int stack = 0; stack < stacks.size; stack++) {
                for (int cell = 0; cell <= stacks.tops[stack]; cell++) {
                    begin(placeOf(stack, cell), form.holdsIn(stacks, stack, cell));
                }
            }
            for (int stack = 0; stack < stacks.size; stack++) {
                for (int cell = 0; cell <= stacks.tops[stack]; cell++) {
                    if (nearer[placeOf(stack, cell)] != NONE) {
                        joinNeighbours(stacks, stack, cell);
                    }
                }
            }
            return pieces;
        }

        private static int placeOf(int stack, int cell) {
            return MOST_CELLS_OF_STACK * stack + cell;
        }

        private void begin(int place, boolean holds) {
            nearer[place] = holds ? place : NONE;
            if (holds) {
                pieces++;
            }
        }

        private void joinNeighbours(Stacks stacks, int stack, int cell) {
            int place = placeOf(stack, cell);
            if (cell > 0) {
                join(place, place - 1);
            }
            if (stack % 2 == 1) {
                return;
            }
            for (int beside = stack - 1; beside <= stack + 1; beside += 2) {
                if (stacks.has(beside)) {
                    int highest = stacks.highestBeside(stack, cell, beside);
                    for (int to = stacks.lowestBeside(stack, cell, beside); to <= highest; to++) {
                        join(place, placeOf(beside, to));
                    }
                }
            }
        }

        private void join(int one, int other) {
            if (nearer[other] == NONE) {
                return;
            }
            int first = standsFor(one);
            int second = standsFor(other);
            if (first != second) {
                nearer[Math.max(first, second)] = Math.min(first, second);
                pieces--;
            }
        }

        private int standsFor(int place) {
            int at = place;
            for (int step = 0; step < MOST_CELLS && nearer[at] != at; step++) {
                at = nearer[at];
            }
            nearer[place] = at;
            return at;
        }
    }

    private static final class Dice {
        private long seed = 1;

        int next(int sides) {
            seed = (1103515245L * seed + 12345L) % (1L << 31);
            return sides < 1 ? 0 : (int) (seed / 65536 % sides);
        }
    }

    /** The latest answers; the oldest one goes when another comes. */
    private static final class Ring {
        private final int[] answers = new int[MOST_ANSWERS];
        private int next = 0;
        int size = 0;

        void append(int answer) {
            answers[next] = answer;
            next = (next + 1) % MOST_ANSWERS;
            size = Math.min(size + 1, MOST_ANSWERS);
        }

        int back(int number) {
            return answers[Math.floorMod(next - 1 - number, MOST_ANSWERS)];
        }
    }
}
