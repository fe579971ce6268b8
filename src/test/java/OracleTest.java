import java.math.BigDecimal;
import java.math.BigInteger;
import java.math.MathContext;
import java.math.RoundingMode;
import java.util.ArrayList;
import java.util.List;
import java.util.Random;

/**
 * Random runs of calls against a second program that is written another way: it samples each cell
 * at one point with decimals of 80 figures instead of deciding signs of roots exactly.
 */
public final class OracleTest {
    private static final MathContext FIGURES = new MathContext(80, RoundingMode.HALF_EVEN);
    private static final BigDecimal TINY = new BigDecimal("1e-40");
    // A house is used for 512 calls at most; to spell a plane takes 28 at most.
    private static final int RUNS = 400, CALLS = 180, LAST_CALL = 512 - 28 - 1;
    private static int wrong = 0;

    public static void main(String[] args) {
        for (int run = 1; run <= RUNS && wrong < 10; run++) {
            new Run(run).go();
        }
        System.out.println(wrong == 0 ? RUNS + " runs agree" : wrong + " runs do not agree");
        if (wrong != 0) {
            System.exit(1);
        }
    }

    static int order(BigDecimal one, BigDecimal other) {
        BigDecimal more = one.subtract(other);
        return more.abs().compareTo(TINY) < 0 ? 0 : more.signum();
    }

    record Line(int kind, int b, int c, int name) {
        BigDecimal at(BigDecimal x) {
            BigDecimal y = BigDecimal.valueOf(c);
            if (kind != 2) {
                y = y.add(x.multiply(BigDecimal.valueOf(b)));
            }
            if (kind == 0) {
                y = y.add(x.multiply(x));
            }
            if (kind == 4) {
                y = y.subtract(x.multiply(x));
            }
            return y;
        }

        boolean upright() {
            return kind == 3;
        }

        int side(BigDecimal x, BigDecimal y) {
            return 1 + (upright() ? order(BigDecimal.valueOf(c), x) : order(at(x), y));
        }

        boolean sameFunction(Line other) {
            for (int x = -1; x <= 1; x++) {
                if (order(at(BigDecimal.valueOf(x)), other.at(BigDecimal.valueOf(x))) != 0) {
                    return false;
                }
            }
            return true;
        }
    }

    record Sight(int curve, int x, int y, int how) {
    }

    /** A cell by a point in it, and the curves right below and above it (or on it). */
    record Spot(int stack, int number, BigDecimal x, BigDecimal y, Line low, Line high) {
    }

    static final class Cut {
        final List<Line> lines;
        final List<BigDecimal> points = new ArrayList<>();
        final List<List<Spot>> stacks = new ArrayList<>();

        Cut(List<Line> lines) {
            this.lines = new ArrayList<>(lines);
            if (lines.isEmpty()) {
                return;
            }
            for (Line one : lines) {
                if (one.upright()) {
                    add(BigDecimal.valueOf(one.c()));
                }
                for (Line other : lines) {
                    meet(one, other);
                }
            }
            points.sort(null);
            for (int stack = 0; stack <= 2 * points.size(); stack++) {
                stacks.add(over(stack, sample(stack)));
            }
        }

        private void meet(Line one, Line other) {
            if (one.upright() || other.upright() || one.sameFunction(other)) {
                return;
            }
            BigDecimal two = BigDecimal.valueOf(2);
            BigDecimal at0 = one.at(BigDecimal.ZERO).subtract(other.at(BigDecimal.ZERO));
            BigDecimal at1 = one.at(BigDecimal.ONE).subtract(other.at(BigDecimal.ONE));
            BigDecimal back = one.at(BigDecimal.ONE.negate()).subtract(other.at(BigDecimal.ONE.negate()));
            BigDecimal a = at1.add(back).divide(two, FIGURES).subtract(at0);
            BigDecimal b = at1.subtract(back).divide(two, FIGURES);
            if (a.signum() == 0) {
                if (b.signum() != 0) {
                    add(at0.negate().divide(b, FIGURES));
                }
                return;
            }
            BigDecimal under = b.multiply(b).subtract(a.multiply(at0).multiply(BigDecimal.valueOf(4)));
            if (under.signum() < 0) {
                return;
            }
            BigDecimal root = under.sqrt(FIGURES);
            add(root.subtract(b).divide(a.multiply(two), FIGURES));
            add(root.negate().subtract(b).divide(a.multiply(two), FIGURES));
        }

        private void add(BigDecimal x) {
            for (BigDecimal point : points) {
                if (order(point, x) == 0) {
                    return;
                }
            }
            points.add(x);
        }

        private BigDecimal sample(int stack) {
            if (stack % 2 == 1) {
                return points.get(stack / 2);
            }
            if (points.isEmpty()) {
                return BigDecimal.ZERO;
            }
            if (stack == 0) {
                return points.get(0).subtract(BigDecimal.TEN);
            }
            BigDecimal left = points.get(stack / 2 - 1);
            if (stack / 2 == points.size()) {
                return left.add(BigDecimal.TEN);
            }
            return left.add(points.get(stack / 2)).divide(BigDecimal.valueOf(2), FIGURES);
        }

        private List<Spot> over(int stack, BigDecimal x) {
            List<Line> sections = new ArrayList<>();
            for (Line line : lines) {
                if (!line.upright() && sections.stream().noneMatch(s -> order(s.at(x), line.at(x)) == 0)) {
                    sections.add(line);
                }
            }
            sections.sort((p, q) -> order(p.at(x), q.at(x)));
            List<Spot> spots = new ArrayList<>();
            for (int number = 0; number <= 2 * sections.size(); number++) {
                Line low = number == 0 ? null : sections.get((number - 1) / 2);
                Line high = number == 2 * sections.size() ? null : sections.get(number / 2);
                BigDecimal y = BigDecimal.ZERO;
                if (low != null && high != null) {
                    y = low.at(x).add(high.at(x)).divide(BigDecimal.valueOf(2), FIGURES);
                } else if (low != null) {
                    y = low.at(x).add(BigDecimal.ONE);
                } else if (high != null) {
                    y = high.at(x).subtract(BigDecimal.ONE);
                }
                spots.add(new Spot(stack, number, x, y, low, high));
            }
            return spots;
        }

        int cells() {
            return stacks.stream().mapToInt(List::size).sum();
        }

        int sections() {
            return stacks.stream().mapToInt(s -> s.size() / 2).sum();
        }

        Spot spot(int stack, int cell) {
            if (stack < 0 || stack >= stacks.size() || cell < 0 || cell >= stacks.get(stack).size()) {
                return null;
            }
            return stacks.get(stack).get(cell);
        }

        boolean touch(Spot one, Spot other) {
            if (one.stack() == other.stack()) {
                return Math.abs(one.number() - other.number()) == 1;
            }
            if (Math.abs(one.stack() - other.stack()) != 1) {
                return false;
            }
            Spot wide = one.stack() % 2 == 0 ? one : other;
            Spot thin = wide == one ? other : one;
            BigDecimal x = thin.x();
            return (wide.low() == null || order(wide.low().at(x), thin.y()) <= 0)
                    && (wide.high() == null || order(wide.high().at(x), thin.y()) >= 0);
        }

        List<Spot> all() {
            List<Spot> spots = new ArrayList<>();
            stacks.forEach(spots::addAll);
            return spots;
        }

        int neighbours(Spot spot) {
            return (int) all().stream().filter(other -> touch(spot, other)).count();
        }

        boolean holds(Spot spot, int mode, int form) {
            String figures = String.format("%04d", form);
            boolean every = true;
            boolean any = false;
            for (int i = 0; i < lines.size(); i++) {
                int figure = figures.charAt(i) - '0';
                String fine = new String[] {"012", "0", "1", "2", "02", "12", "01"}[figure];
                boolean is = fine.indexOf('0' + lines.get(i).side(spot.x(), spot.y())) >= 0;
                every &= is;
                any |= is && figure != 0;
            }
            return mode == 0 ? every : any;
        }

        int pieces(int mode, int form) {
            List<Spot> left = new ArrayList<>(all().stream().filter(s -> holds(s, mode, form)).toList());
            int pieces = 0;
            while (!left.isEmpty()) {
                pieces++;
                List<Spot> open = new ArrayList<>(List.of(left.remove(0)));
                while (!open.isEmpty()) {
                    Spot from = open.remove(open.size() - 1);
                    for (int i = left.size() - 1; i >= 0; i--) {
                        if (touch(from, left.get(i))) {
                            open.add(left.remove(i));
                        }
                    }
                }
            }
            return pieces;
        }

        boolean so(int first, int second, int mode, int form) {
            java.util.function.Predicate<List<Spot>> inner = s -> second == 1
                    ? s.stream().allMatch(spot -> holds(spot, mode, form))
                    : s.stream().anyMatch(spot -> holds(spot, mode, form));
            return first == 1 ? stacks.stream().allMatch(inner) : stacks.stream().anyMatch(inner);
        }

        int point(int number, int what) {
            BigDecimal x = points.get(number);
            switch (what) {
                case 0:
                    return 100000 + x.movePointRight(3).add(TINY).setScale(0, RoundingMode.FLOOR).intValueExact();
                case 1:
                    for (int part = 1; part <= 36; part++) {
                        BigDecimal times = x.multiply(BigDecimal.valueOf(part));
                        if (order(times, times.setScale(0, RoundingMode.HALF_EVEN)) == 0) {
                            return 1;
                        }
                    }
                    return 0;
                case 2:
                    int pairs = 0;
                    for (int i = 0; i < lines.size(); i++) {
                        for (int j = i + 1; j < lines.size(); j++) {
                            Line p = lines.get(i);
                            Line q = lines.get(j);
                            if (!p.upright() && !q.upright() && !p.sameFunction(q)
                                    && order(p.at(x), q.at(x)) == 0) {
                                pairs++;
                            }
                        }
                    }
                    return pairs;
                default:
                    return (int) lines.stream()
                            .filter(l -> l.upright() && order(BigDecimal.valueOf(l.c()), x) == 0).count();
            }
        }
    }

    /** What a house tells, said again from the document. */
    static final class House {
        final StringBuilder page = new StringBuilder();
        List<Line> lines = new ArrayList<>();
        List<Sight> seen = new ArrayList<>();
        List<Line> keptLines = null;
        List<Sight> keptSeen = null;
        final List<Integer> ring = new ArrayList<>();
        BigInteger seed = BigInteger.ONE;
        int names = 1;
        int reads = 0;
        int sentences = 0;
        private Cut cut = null;

        Cut cut() {
            if (cut == null || !cut.lines.equals(lines)) {
                cut = new Cut(lines);
            }
            return cut;
        }

        static boolean in(int number, int from, int to) {
            return number >= from && number <= to;
        }

        static boolean form(int form) {
            return in(form, 0, 9999) && String.format("%04d", form).matches("[0-6]{4}");
        }

        static boolean starts(String text) {
            String rest = "p+0+0,p+0+0,p+0+0,p+0+0".substring(Math.min(text.length(), 23));
            return (text + rest).matches("[plhuf][+-]\\d[+-]\\d(,[plhuf][+-]\\d[+-]\\d){0,3}");
        }

        int fault() {
            for (int end = 1; end <= page.length(); end++) {
                if (!starts(page.substring(0, end))) {
                    return end - 1;
                }
            }
            return page.length();
        }

        int plane() {
            if (!page.toString().matches("[plhuf][+-]\\d[+-]\\d(,[plhuf][+-]\\d[+-]\\d){0,3}")) {
                return -103;
            }
            lines = new ArrayList<>();
            for (String part : page.toString().split(",")) {
                lines.add(new Line("plhuf".indexOf(part.charAt(0)), Integer.parseInt(part.substring(1, 3)),
                        Integer.parseInt(part.substring(3)), names++));
            }
            page.setLength(0);
            seen = new ArrayList<>();
            keptLines = null;
            reads++;
            return lines.size();
        }

        boolean fits(int number, int kind) {
            Line line = lines.get(number);
            return seen.stream().filter(s -> s.curve() == number).allMatch(s -> s.how()
                    == new Line(kind, line.b(), line.c(), 0).side(BigDecimal.valueOf(s.x()), BigDecimal.valueOf(s.y())));
        }

        int ask(int number) {
            Line line = lines.get(number);
            int best = -1;
            int least = 99;
            for (int x = 9; x >= -9; x--) {
                int[] by = new int[3];
                for (int kind = 0; kind < 5; kind++) {
                    if (fits(number, kind)) {
                        by[new Line(kind, line.b(), line.c(), 0).side(BigDecimal.valueOf(x), BigDecimal.ZERO)]++;
                    }
                }
                int worst = Math.max(by[0], Math.max(by[1], by[2]));
                if (worst > 0 && worst <= least) {
                    least = worst;
                    best = x + 9;
                }
            }
            return best;
        }

        int curve(int number, int what) {
            if (!in(number, 0, lines.size() - 1)) {
                return -101;
            }
            Line line = lines.get(number);
            int sorts = 0;
            for (int kind = 0; kind < 5; kind++) {
                sorts += fits(number, kind) ? 1 << kind : 0;
            }
            switch (what) {
                case 0: return line.kind();
                case 1: return line.b() + 9;
                case 2: return line.c() + 9;
                case 3: return line.name();
                case 4: return sorts;
                case 5: return ask(number);
                default: return -102;
            }
        }

        int loose() {
            if (lines.isEmpty()) {
                return -103;
            }
            int best = -1;
            int least = Integer.MAX_VALUE;
            for (int i = 0; i < lines.size() && lines.size() > 1; i++) {
                List<Line> fewer = new ArrayList<>(lines);
                fewer.remove(i);
                int cells = new Cut(fewer).cells();
                if (cells < least) {
                    least = cells;
                    best = i;
                }
            }
            return best;
        }

        int count(int what) {
            int[] all = {lines.size(), cut().points.size(), cut().stacks.size(), cut().cells(), cut().sections(),
                seen.size(), page.length(), reads, sentences, names, ring.size()};
            return in(what, 0, 10) ? all[what] : -102;
        }

        long digest() {
            List<Integer> all = new ArrayList<>();
            for (int i = 0; i < lines.size(); i++) {
                for (int what = 0; what <= 5; what++) {
                    all.add(curve(i, what));
                }
            }
            for (int i = 0; i < cut().points.size(); i++) {
                for (int what = 0; what <= 3; what++) {
                    all.add(cut().point(i, what));
                }
            }
            for (List<Spot> stack : cut().stacks) {
                all.add(stack.size());
                stack.forEach(spot -> lines.forEach(line -> all.add(line.side(spot.x(), spot.y()))));
            }
            if (!lines.isEmpty()) {
                all.add(cut().pieces(0, 1000));
            }
            all.addAll(ring);
            page.chars().forEach(all::add);
            for (int what = 0; what <= 10; what++) {
                all.add(count(what));
            }
            long h = 1433;
            for (int number : all) {
                h = h * 31 + number;
            }
            return h;
        }

        /** How a curve would lie if it were of a kind: most sights are to leave some sorts. */
        int knowsSide(int number, int x, int y, int kind, int otherwise) {
            if (!knows(number) || !in(kind, 0, 4) || x % 5 == 0) {
                return otherwise;
            }
            Line line = lines.get(number);
            return new Line(kind, line.b(), line.c(), 0).side(BigDecimal.valueOf(x), BigDecimal.valueOf(y));
        }

        boolean knows(int number) {
            return in(number, 0, lines.size() - 1);
        }

        int write(int number, Line line) {
            lines = new ArrayList<>(lines);
            lines.set(number, line);
            return 0;
        }

        long call(String name, int[] a) {
            boolean none = lines.isEmpty();
            switch (name) {
                case "letter":
                    if (!in(a[0], 1, 126)) {
                        return -102;
                    }
                    return page.length() == 24 ? -104 : page.append((char) a[0]).length();
                case "blank": {
                    int had = page.length();
                    page.setLength(0);
                    return had;
                }
                case "fault": return fault();
                case "plane": return plane();
                case "curve": return curve(a[0], a[1]);
                case "as":
                    if (!knows(a[0]) || !in(a[1], 0, 4)) {
                        return knows(a[0]) ? -102 : -101;
                    }
                    return List.of("0", "01", "012", "03", "04").get(lines.get(a[0]).kind())
                            .indexOf('0' + a[1]) >= 0 ? a[0] : -1;
                case "point":
                    if (!in(a[0], 0, cut().points.size() - 1) || !in(a[1], 0, 3)) {
                        return in(a[0], 0, cut().points.size() - 1) ? -102 : -101;
                    }
                    return cut().point(a[0], a[1]);
                case "stack": return in(a[0], 0, cut().stacks.size() - 1) ? cut().stacks.get(a[0]).size() : -101;
                case "cell": {
                    Spot spot = cut().spot(a[0], a[1]);
                    return spot == null || !knows(a[2]) ? -101 : lines.get(a[2]).side(spot.x(), spot.y());
                }
                case "neighbours": {
                    Spot spot = cut().spot(a[0], a[1]);
                    return spot == null ? -101 : cut().neighbours(spot);
                }
                case "put":
                    if (!in(a[0], 0, 4) || !in(a[1], -9, 9) || !in(a[2], -9, 9)) {
                        return -102;
                    }
                    if (none || lines.size() == 4) {
                        return none ? -103 : -104;
                    }
                    lines.add(new Line(a[0], a[1], a[2], names++));
                    return lines.size();
                case "take":
                    if (!knows(a[0]) || lines.size() == 1) {
                        return knows(a[0]) ? -103 : -101;
                    }
                    return lines.remove(a[0]).name();
                case "move":
                    if (!knows(a[0]) || !in(a[1], -9, 9) || !in(a[2], -9, 9)) {
                        return knows(a[0]) ? -102 : -101;
                    }
                    write(a[0], new Line(lines.get(a[0]).kind(), a[1], a[2], lines.get(a[0]).name()));
                    return cut().cells();
                case "change":
                    if (!knows(a[0]) || !in(a[1], 0, 4)) {
                        return knows(a[0]) ? -102 : -101;
                    }
                    Line old = lines.get(a[0]);
                    write(a[0], new Line(a[1], old.b(), old.c(), old.name()));
                    return old.kind();
                case "mirror":
                    if (none) {
                        return -103;
                    }
                    for (int i = 0; i < lines.size(); i++) {
                        Line line = lines.get(i);
                        write(i, new Line(line.kind(), -line.b(), line.upright() ? -line.c() : line.c(), line.name()));
                    }
                    return cut().cells();
                case "sentence": {
                    if (!in(a[0], 0, 1) || !in(a[1], 0, 1) || !in(a[2], 0, 1) || !form(a[3])) {
                        return -102;
                    }
                    if (none) {
                        return -103;
                    }
                    int so = cut().so(a[0], a[1], a[2], a[3]) ? 1 : 0;
                    sentences++;
                    ring.add(0, so);
                    if (ring.size() > 8) {
                        ring.remove(8);
                    }
                    return so;
                }
                case "pieces":
                    if (!in(a[0], 0, 1) || !form(a[1])) {
                        return -102;
                    }
                    return none ? -103 : cut().pieces(a[0], a[1]);
                case "loose": return loose();
                case "see":
                    if (!knows(a[0]) || !in(a[1], -9, 9) || !in(a[2], -9, 9) || !in(a[3], 0, 2)) {
                        return knows(a[0]) ? -102 : -101;
                    }
                    if (seen.size() == 6) {
                        return -104;
                    }
                    seen.add(new Sight(a[0], a[1], a[2], a[3]));
                    return seen.size();
                case "forget": {
                    int was = seen.size();
                    seen = new ArrayList<>();
                    return was;
                }
                case "dice":
                    if (!in(a[0], 1, 1000)) {
                        return -102;
                    }
                    seed = seed.multiply(BigInteger.valueOf(1103515245)).add(BigInteger.valueOf(12345))
                            .mod(BigInteger.TWO.pow(31));
                    return seed.shiftRight(16).mod(BigInteger.valueOf(a[0])).intValueExact();
                case "latest": return in(a[0], 0, ring.size() - 1) ? ring.get(a[0]) : -101;
                case "image":
                    if (none) {
                        return -103;
                    }
                    keptLines = new ArrayList<>(lines);
                    keptSeen = new ArrayList<>(seen);
                    return lines.size();
                case "restore":
                    if (keptLines == null) {
                        return -103;
                    }
                    lines = new ArrayList<>(keptLines);
                    seen = new ArrayList<>(keptSeen);
                    return lines.size();
                case "count": return count(a[0]);
                default: return digest();
            }
        }
    }

    static final class Run {
        static final String[] NAMES = {"letter", "blank", "fault", "plane", "curve", "as", "point", "stack", "cell",
            "neighbours", "put", "take", "move", "change", "mirror", "sentence", "pieces", "loose", "see", "forget",
            "dice", "latest", "image", "restore", "count", "digest"};
        // How many of 100 calls of each: pages are seldom emptied or forgotten, cells are often asked.
        static final int[] SHARES = {2, 1, 1, 2, 5, 3, 7, 3, 8, 8, 6, 3, 7, 6, 2, 8, 6, 2, 6, 1, 2, 2, 1, 2, 3, 3};

        final int number;
        final Random random;
        final CellPlane real = new CellPlane();
        final House due = new House();
        final StringBuilder told = new StringBuilder();
        boolean failed = false;
        int calls = 0;

        Run(int number) {
            this.number = number;
            this.random = new Random(number);
        }

        void go() {
            for (int i = 0; i < CALLS && calls < LAST_CALL && !failed; i++) {
                if (i == 3 || random.nextInt(40) == 0) {
                    spell();
                }
                call(pick());
            }
        }

        void spell() {
            StringBuilder text = new StringBuilder();
            int curves = 1 + random.nextInt(4);
            int far = random.nextBoolean() ? 10 : 4;
            for (int i = 0; i < curves; i++) {
                text.append(i == 0 ? "" : ",").append("pplhuff".charAt(random.nextInt(7)));
                for (int j = 0; j < 2; j++) {
                    text.append(random.nextBoolean() ? '+' : '-').append((char) ('0' + random.nextInt(far)));
                }
            }
            if (random.nextInt(4) == 0) {
                text.setCharAt(random.nextInt(text.length()), "plhuf+-09,:x/".charAt(random.nextInt(13)));
            }
            if (random.nextInt(10) == 0) {
                text.append(",p");
            }
            if (random.nextInt(4) != 0) {
                compare("blank", new int[0], real.blank());
            }
            for (int i = 0; i < text.length(); i++) {
                compare("letter", new int[] {text.charAt(i)}, real.letter(text.charAt(i)));
            }
            compare("fault", new int[0], real.fault());
            compare("plane", new int[0], real.plane());
        }

        String pick() {
            int at = random.nextInt(100);
            for (int i = 0; i < NAMES.length; i++) {
                at -= SHARES[i];
                if (at < 0) {
                    return NAMES[i];
                }
            }
            return "digest";
        }

        int any(int from, int to) {
            switch (random.nextInt(40)) {
                case 0: return from - 1;
                case 1: return to + 1;
                case 2: return new int[] {Integer.MIN_VALUE, Integer.MAX_VALUE, -1, 10000}[random.nextInt(4)];
                default: return from + random.nextInt(to - from + 1);
            }
        }

        int form() {
            if (random.nextInt(20) == 0) {
                return any(0, 9999);
            }
            int form = 0;
            for (int i = 0; i < 4; i++) {
                form = 10 * form + (random.nextInt(3) == 0 ? 0 : random.nextInt(7));
            }
            return form;
        }

        int near() {
            return random.nextBoolean() ? any(-9, 9) : any(-2, 2);
        }

        int line() {
            return any(0, Math.max(0, due.lines.size() - 1));
        }

        void call(String name) {
            int stacks = Math.max(1, due.cut().stacks.size());
            int stack = any(0, stacks - 1);
            int high = due.cut().spot(stack, 0) == null ? 1 : due.cut().stacks.get(stack).size();
            int cell = any(0, high - 1);
            int line = line();
            int b = near();
            int c = near();
            int kind = any(0, 4);
            switch (name) {
                case "letter": {
                    int code = any(1, 126);
                    compare(name, new int[] {code}, real.letter(code));
                    break;
                }
                case "blank": compare(name, new int[0], real.blank()); break;
                case "fault": compare(name, new int[0], real.fault()); break;
                case "plane": compare(name, new int[0], real.plane()); break;
                case "curve": {
                    int what = any(0, 5);
                    compare(name, new int[] {line, what}, real.curve(line, what));
                    break;
                }
                case "as": compare(name, new int[] {line, kind}, real.as(line, kind)); break;
                case "point": {
                    int point = any(0, Math.max(0, due.cut().points.size() - 1));
                    int what = any(0, 3);
                    compare(name, new int[] {point, what}, real.point(point, what));
                    break;
                }
                case "stack": compare(name, new int[] {stack}, real.stack(stack)); break;
                case "cell": compare(name, new int[] {stack, cell, line}, real.cell(stack, cell, line)); break;
                case "neighbours": compare(name, new int[] {stack, cell}, real.neighbours(stack, cell)); break;
                case "put": compare(name, new int[] {kind, b, c}, real.put(kind, b, c)); break;
                case "take": compare(name, new int[] {line}, real.take(line)); break;
                case "move": compare(name, new int[] {line, b, c}, real.move(line, b, c)); break;
                case "change": compare(name, new int[] {line, kind}, real.change(line, kind)); break;
                case "mirror": compare(name, new int[0], real.mirror()); break;
                case "sentence": {
                    int[] a = {any(0, 1), any(0, 1), any(0, 1), form()};
                    compare(name, a, real.sentence(a[0], a[1], a[2], a[3]));
                    break;
                }
                case "pieces": {
                    int[] a = {any(0, 1), form()};
                    compare(name, a, real.pieces(a[0], a[1]));
                    break;
                }
                case "loose": compare(name, new int[0], real.loose()); break;
                case "see": {
                    int how = due.knowsSide(line, b, c, kind, any(0, 2));
                    compare(name, new int[] {line, b, c, how}, real.see(line, b, c, how));
                    break;
                }
                case "forget": compare(name, new int[0], real.forget()); break;
                case "dice": {
                    int sides = any(1, 1000);
                    compare(name, new int[] {sides}, real.dice(sides));
                    break;
                }
                case "latest": {
                    int back = any(0, 8);
                    compare(name, new int[] {back}, real.latest(back));
                    break;
                }
                case "image": compare(name, new int[0], real.image()); break;
                case "restore": compare(name, new int[0], real.restore()); break;
                case "count": {
                    int what = any(0, 10);
                    compare(name, new int[] {what}, real.count(what));
                    break;
                }
                default: compare("digest", new int[0], real.digest());
            }
        }

        void compare(String name, int[] arguments, long got) {
            calls++;
            long want = due.call(name, arguments);
            told.append(name).append(java.util.Arrays.toString(arguments)).append(" = ").append(got).append('\n');
            if (got != want && !failed) {
                failed = true;
                wrong++;
                System.out.println("run " + number + ", due is " + want + " at the end of\n" + told);
            }
        }
    }
}
