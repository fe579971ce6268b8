import java.util.function.Supplier;

/** For each number that a call takes: the last one taken and the first one refused, on each side. */
public final class EdgesTest extends Checks {
    private static final String THREE_CURVES = "p+0+0,h+0+2,u+0+0";

    public static void main(String[] args) {
        letterCodes();
        curves();
        kinds();
        whats();
        points();
        stacksAndCells();
        bsAndCs();
        sentences();
        figuresOfForms();
        sights();
        sides();
        answers();
        finish();
    }

    /** Three curves; of the points one is at 0; three answers, of which the latest is 0. */
    private static CellPlane three() {
        CellPlane x = read(THREE_CURVES);
        x.sentence(0, 0, 0, 0);
        x.sentence(1, 1, 0, 0);
        x.sentence(0, 0, 1, 0);
        return x;
    }

    private record Range(int place, int first, int last, int refusal) {
    }

    /** At its place among the arguments the numbers first to last are taken, and no others. */
    private static void edges(Supplier<CellPlane> house, Range range, long dueFirst, long dueLast,
            String name, int... arguments) {
        answered(house, range, range.first(), dueFirst, name, arguments);
        answered(house, range, range.last(), dueLast, name, arguments);
        for (int number : new int[] {range.first() - 1, range.last() + 1, range.last() + 256, LEAST, MOST,
            range.first() + LEAST, range.last() + LEAST}) {
            answered(house, range, number, range.refusal(), name, arguments);
        }
    }

    private static void answered(Supplier<CellPlane> house, Range range, int number, long want,
            String name, int... arguments) {
        int[] with = arguments.clone();
        with[range.place()] = number;
        dueOf(house.get(), want, name, with);
    }

    private static void letterCodes() {
        about("2 letter: OUTSIDE: code (1 to 126)");
        edges(CellPlane::new, new Range(0, 1, 126, OUTSIDE), 1, 1, "letter", 0);
    }

    private static void curves() {
        Range curve = new Range(0, 0, 2, UNKNOWN);
        about("6 curve: UNKNOWN");
        edges(EdgesTest::three, curve, 0, 3, "curve", 0, 0);
        about("7 as: UNKNOWN");
        edges(EdgesTest::three, curve, 0, 2, "as", 0, 0);
        about("10 cell: UNKNOWN: curve");
        edges(EdgesTest::three, new Range(2, 0, 2, UNKNOWN), 2, 2, "cell", 0, 0, 0);
        about("13 take: UNKNOWN");
        edges(EdgesTest::three, curve, 1, 3, "take", 0);
        about("14 move: UNKNOWN");
        edges(EdgesTest::three, curve, 15, 31, "move", 0, 0, 3);
        about("15 change: UNKNOWN");
        edges(EdgesTest::three, curve, 0, 3, "change", 0, 1);
        about("20 see: UNKNOWN: curve");
        edges(EdgesTest::three, curve, 1, 1, "see", 0, 0, 0, 0);
        about("UNKNOWN (a number names nothing): of four the last one is 3");
        Supplier<CellPlane> four = () -> read("p+0+0,h+0+2,u+0+0,f+0+0");
        edges(four, new Range(0, 0, 3, UNKNOWN), 0, 4, "curve", 0, 0);
        edges(four, new Range(0, 0, 3, UNKNOWN), 1, 4, "take", 0);
        about("UNKNOWN (a number names nothing): of one the last one is 0");
        edges(() -> read("f+0+0"), new Range(0, 0, 0, UNKNOWN), 4, 4, "curve", 0, 0);
    }

    private static void kinds() {
        about("7 as: OUTSIDE");
        edges(EdgesTest::three, new Range(1, 0, 4, OUTSIDE), 2, NONE, "as", 2, 0);
        about("12 put: OUTSIDE: kind (0 to 4)");
        edges(EdgesTest::three, new Range(0, 0, 4, OUTSIDE), 4, 4, "put", 0, 0, 0);
        about("15 change: OUTSIDE: kind (0 to 4)");
        edges(EdgesTest::three, new Range(1, 0, 4, OUTSIDE), 2, 2, "change", 1, 0);
    }

    private static void whats() {
        about("6 curve: OUTSIDE (what is 0 to 5)");
        edges(EdgesTest::three, new Range(1, 0, 5, OUTSIDE), 2, 11, "curve", 1, 0);
        about("8 point: OUTSIDE (what is 0 to 3)");
        edges(EdgesTest::three, new Range(1, 0, 3, OUTSIDE), 100000, 1, "point", 1, 0);
        about("26 count: OUTSIDE (what is 0 to 10)");
        edges(EdgesTest::three, new Range(0, 0, 10, OUTSIDE), 3, 3, "count", 0);
        edges(CellPlane::new, new Range(0, 0, 10, OUTSIDE), 0, 0, "count", 0);
    }

    private static void points() {
        about("8 point: UNKNOWN");
        edges(EdgesTest::three, new Range(0, 0, 2, UNKNOWN), 98585, 101414, "point", 0, 0);
        edges(() -> read("u+0-9"), new Range(0, 0, 0, UNKNOWN), 91000, 91000, "point", 0, 0);
    }

    private static void stacksAndCells() {
        Range stack = new Range(0, 0, 6, UNKNOWN);
        about("9 stack: UNKNOWN");
        edges(EdgesTest::three, stack, 5, 5, "stack", 0);
        edges(() -> read("h+0+0"), new Range(0, 0, 0, UNKNOWN), 3, 3, "stack", 0);
        about("10 cell: UNKNOWN: stack");
        edges(EdgesTest::three, stack, 2, 0, "cell", 0, 4, 2);
        about("10 cell: UNKNOWN: cell");
        edges(EdgesTest::three, new Range(1, 0, 4, UNKNOWN), 2, 0, "cell", 0, 0, 0);
        edges(EdgesTest::three, new Range(1, 0, 2, UNKNOWN), 2, 0, "cell", 1, 0, 0);
        edges(() -> read("u+0+0"), new Range(1, 0, 0, UNKNOWN), 2, 2, "cell", 0, 0, 0);
        about("11 neighbours: UNKNOWN: stack");
        edges(EdgesTest::three, stack, 3, 3, "neighbours", 0, 4);
        about("11 neighbours: UNKNOWN: cell");
        edges(EdgesTest::three, new Range(1, 0, 4, UNKNOWN), 3, 3, "neighbours", 0, 0);
        edges(EdgesTest::three, new Range(1, 0, 2, UNKNOWN), 3, 3, "neighbours", 1, 0);
        edges(() -> read("u+0+0"), new Range(1, 0, 0, UNKNOWN), 2, 2, "neighbours", 1, 0);
    }

    private static void bsAndCs() {
        about("12 put: OUTSIDE: b (-9 to 9)");
        edges(EdgesTest::three, new Range(1, -9, 9, OUTSIDE), 4, 4, "put", 0, 0, 0);
        about("12 put: OUTSIDE: c (-9 to 9)");
        edges(EdgesTest::three, new Range(2, -9, 9, OUTSIDE), 4, 4, "put", 0, 0, 0);
        about("14 move: OUTSIDE: b (-9 to 9)");
        edges(EdgesTest::three, new Range(1, -9, 9, OUTSIDE), 31, 31, "move", 0, 0, 0);
        about("14 move: OUTSIDE: c (-9 to 9)");
        edges(EdgesTest::three, new Range(2, -9, 9, OUTSIDE), 31, 15, "move", 0, 0, 0);
        about("12 put, 14 move: the outermost B and C are told as they came");
        for (int end = -9; end <= 9; end += 18) {
            CellPlane x = read("l+0+0");
            x.put(4, end, -end);
            due("b of put()", x.curve(1, 1), 9 + end);
            due("c of put()", x.curve(1, 2), 9 - end);
            x.move(0, -end, end);
            due("b of move()", x.curve(0, 1), 9 - end);
            due("c of move()", x.curve(0, 2), 9 + end);
        }
    }

    private static void sentences() {
        about("17 sentence: OUTSIDE: first (0, 1)");
        edges(EdgesTest::three, new Range(0, 0, 1, OUTSIDE), 1, 0, "sentence", 0, 0, 0, 2200);
        about("17 sentence: OUTSIDE: second (0, 1)");
        edges(EdgesTest::three, new Range(1, 0, 1, OUTSIDE), 1, 0, "sentence", 0, 0, 0, 2200);
        about("17 sentence: OUTSIDE: mode (0, 1)");
        edges(EdgesTest::three, new Range(2, 0, 1, OUTSIDE), 0, 1, "sentence", 1, 0, 0, 2200);
        about("17 sentence: OUTSIDE: form (0000 to 6666)");
        edges(EdgesTest::three, new Range(3, 0, 6666, OUTSIDE), 1, 1, "sentence", 0, 0, 0, 0);
        about("18 pieces: OUTSIDE: mode (0, 1)");
        edges(EdgesTest::three, new Range(0, 0, 1, OUTSIDE), 2, 1, "pieces", 0, 2200);
        about("18 pieces: OUTSIDE: form (0000 to 6666)");
        edges(EdgesTest::three, new Range(1, 0, 6666, OUTSIDE), 1, 1, "pieces", 0, 0);
    }

    /** Each form that there is, and some beyond: fine if it has four figures of 0 to 6 each. */
    private static void figuresOfForms() {
        for (int from = -250; from < 10250; from += 250) {
            CellPlane x = read("u+0+0");
            for (int form = from; form < from + 250; form++) {
                boolean fine = form >= 0 && form < 10000 && !Integer.toString(form).matches(".*[789].*");
                about("18 pieces: OUTSIDE: form (four figures, 0 to 6 each)");
                due("pieces(1, " + form + ") is fine", x.pieces(1, form) == OUTSIDE ? 0 : 1, fine ? 1 : 0);
                about("17 sentence: OUTSIDE: form (four figures, 0 to 6 each)");
                due("sentence(.., " + form + ") is fine", x.sentence(0, 0, 1, form) == OUTSIDE ? 0 : 1, fine ? 1 : 0);
            }
        }
    }

    private static void sights() {
        about("20 see: OUTSIDE: x (-9 to 9)");
        edges(EdgesTest::three, new Range(1, -9, 9, OUTSIDE), 1, 1, "see", 0, 0, 0, 0);
        about("20 see: OUTSIDE: y (-9 to 9)");
        edges(EdgesTest::three, new Range(2, -9, 9, OUTSIDE), 1, 1, "see", 0, 0, 0, 0);
        about("20 see: OUTSIDE: how (0 to 2)");
        edges(EdgesTest::three, new Range(3, 0, 2, OUTSIDE), 1, 1, "see", 0, 0, 0, 0);
        about("20 see: the outermost points are looked at as they came");
        int[][] outermost = {{-9, -9}, {9, 9}, {-9, 9}, {9, -9}};
        for (int[] s : outermost) {
            for (int how = 0; how <= 2; how++) {
                CellPlane x = read("l+1+0");
                x.see(0, s[0], s[1], how);
                due("sorts by " + told("see", 0, s[0], s[1], how), x.curve(0, 4),
                        sortsByHand(1, 0, s[0], s[1], how));
            }
        }
    }

    private static int sortsByHand(int b, int c, int x, int y, int how) {
        int[] more = {x * x + b * x + c - y, b * x + c - y, c - y, c - x, b * x + c - x * x - y};
        int sorts = 0;
        for (int kind = 0; kind < 5; kind++) {
            sorts += Integer.signum(more[kind]) + 1 == how ? 1 << kind : 0;
        }
        return sorts;
    }

    private static void sides() {
        about("22 dice: OUTSIDE: sides (1 to 1000)");
        edges(CellPlane::new, new Range(0, 1, 1000, OUTSIDE), 0, 838, "dice", 0);
    }

    private static void answers() {
        about("23 latest: UNKNOWN: there are not so many");
        edges(EdgesTest::three, new Range(0, 0, 2, UNKNOWN), 0, 1, "latest", 0);
    }
}
