import java.math.BigInteger;
import java.util.ArrayList;
import java.util.List;

/** Empty, full, none, like ones, and what begins anew: a test for each sentence that names such a case. */
public final class LimitsTest extends Checks {
    private static final int MOST_CALLS = 512;

    public static void main(String[] args) {
        newHouse();
        emptyAndFullPage();
        lettersOfAPlane();
        lengthsOfAPlane();
        digitsOfAPlane();
        anotherPlaneIsGone();
        askOfLikeOnes();
        askOfNone();
        asNone();
        pointsEachOnce();
        pointsRoundedDown();
        pointsOfAllPairs();
        fewestAndMostCells();
        putUpToFour();
        takeDownToOne();
        seenStaysWithTheNumbers();
        moveAndChangeKeepTheRest();
        mirrorOfTheOutermost();
        cutAnewByEachChange();
        formsOfCurvesThatThereAreNot();
        formsOfNone();
        everyFigure();
        looseOfLikeOnes();
        looseOfOne();
        seenUpToSix();
        forgetNothing();
        diceGoOn();
        diceOfFewSides();
        ringComesAround();
        imageIsTheLatest();
        imageIsNotTouched();
        restoreWithAnotherPlane();
        namesAreGivenOnce();
        acrossAllCalls();
        countsOfNoPlane();
        digestWraps();
        lastCallOfAHouse();
        finish();
    }

    private static void newHouse() {
        about("1 CellPlane(): no PLANE; all from their beginning, also behind another house");
        CellPlane other = read("p+0+0,h+0+2");
        other.dice(9);
        other.sentence(0, 0, 0, 0);
        other.see(0, 0, 0, 0);
        other.image();
        write(other, "p+0");
        CellPlane x = new CellPlane();
        countsAre(x, 0, 0, 0, 0, 0, 0, 0, 0, 0, 1, 0);
        due("fault()", x.fault(), 0);
        due("restore()", x.restore(), STATE);
        due("image()", x.image(), STATE);
        due("latest(0)", x.latest(0), UNKNOWN);
        due("curve(0, 0)", x.curve(0, 0), UNKNOWN);
        due("stack(0)", x.stack(0), UNKNOWN);
        due("first throw", x.dice(1000), 838);
        readAlso(x, "u+0+0");
        due("first name", x.curve(0, 3), 1);
        due("first sentence", x.sentence(0, 0, 0, 0), 1);
        due("sentences", x.count(8), 1);
    }

    private static void countsAre(CellPlane x, int... want) {
        for (int what = 0; what < want.length; what++) {
            dueOf(x, want[what], "count", what);
        }
    }

    private static void emptyAndFullPage() {
        about("2 letter: FULL: above 24");
        CellPlane x = new CellPlane();
        for (int letters = 1; letters <= 24; letters++) {
            due("letter " + letters, x.letter(letters), letters);
        }
        due("letter 25", x.letter('p'), FULL);
        about("3 blank: how many letters it had (full, empty)");
        due("blank() of a full page", x.blank(), 24);
        due("letters then", x.count(6), 0);
        due("blank() of an empty page", x.blank(), 0);
        due("a letter then", x.letter(126), 1);
        about("4 fault: of an empty page");
        x.blank();
        due("fault()", x.fault(), 0);
        about("4 fault: how many letters it has, if there is none");
        String text = "l-9+8,h+7-6,u-5+4,f+3-2";
        for (int letters = 0; letters < text.length(); letters++) {
            due("fault() of " + letters + " letters", x.fault(), letters);
            x.letter(text.charAt(letters));
        }
        due("fault() of four curves", x.fault(), 23);
        due("letter 24", x.letter(','), 24);
        due("fault() of a comma behind four curves", x.fault(), 23);
    }

    /** Each letter at each place of four curves: fine only where a plane has it. */
    private static void lettersOfAPlane() {
        String text = "p+0-9,l-1+8,h+2-7,u-3+6,";
        String[] fine = {"plhuf", "+-", "0123456789", "+-", "0123456789", ","};
        for (int place = 0; place < 24; place++) {
            for (int code = 1; code <= 126; code++) {
                boolean fits = place < 23 && fine[place % 6].indexOf(code) >= 0;
                CellPlane x = new CellPlane();
                write(x, text.substring(0, place) + (char) code + text.substring(Math.min(place + 1, 23), 23));
                String what = " with letter " + code + " at " + place;
                about("4 fault: the first letter that no PLANE has there");
                due("fault()" + what, x.fault(), fits ? 23 : place);
                about("5 plane: STATE: it is none");
                due("plane()" + what, x.plane(), fits ? 4 : STATE);
            }
        }
        about("4 fault: of several the first one");
        CellPlane x = new CellPlane();
        write(x, "p+?+?,?");
        due("fault()", x.fault(), 2);
    }

    private static void lengthsOfAPlane() {
        about("5 plane: one to four CURVES with a comma between");
        String text = "p+0-9,l-1+8,h+2-7,u-3+6,";
        for (int letters = 0; letters <= 24; letters++) {
            CellPlane x = new CellPlane();
            write(x, text.substring(0, letters));
            boolean whole = letters % 6 == 5;
            due("plane() of " + letters + " letters", x.plane(), whole ? (letters + 1) / 6 : STATE);
            due("letters behind plane() of " + letters, x.count(6), whole ? 0 : letters);
            due("planes read behind plane() of " + letters, x.count(7), whole ? 1 : 0);
            due("the next name behind plane() of " + letters, x.count(9), whole ? 1 + (letters + 1) / 6 : 1);
        }
    }

    private static void digitsOfAPlane() {
        about("5 plane: B and C of -9 to 9, a 0 with either sign");
        for (int number = -9; number <= 9; number++) {
            String digit = (number < 0 ? "-" : "+") + Math.abs(number);
            CellPlane x = read("f" + digit + "-0,u-0" + digit);
            due("b by " + digit, x.curve(0, 1), 9 + number);
            due("c by -0", x.curve(0, 2), 9);
            due("b by -0", x.curve(1, 1), 9);
            due("c by " + digit, x.curve(1, 2), 9 + number);
        }
    }

    private static void anotherPlaneIsGone() {
        about("5 plane: another one is gone");
        CellPlane x = read("p+0-9,l-1+8,h+2-7,u-3+6");
        x.see(0, 0, 0, 0);
        readAlso(x, "h+0+0");
        countsAre(x, 1, 0, 1, 3, 1, 0, 0, 2, 0, 6, 0);
        due("the second curve", x.curve(1, 0), UNKNOWN);
        due("the first point", x.point(0, 0), UNKNOWN);
        due("the second stack", x.stack(1), UNKNOWN);
        due("sorts of the first curve", x.curve(0, 4), 31);
        about("5 plane: THE PAGE is empty then");
        due("plane() again", x.plane(), STATE);
        due("a letter", x.letter('p'), 1);
    }

    private static void askOfLikeOnes() {
        about("6 curve, ASK: of like ones the least x; told as x and 9");
        // All x but 0 leave two at worst.
        due("ask for b 0, c 0", read("p+0+0").curve(0, 5), 0);
        // Those from 1 on leave three at worst, those below 1 four or more.
        due("ask for b 0, c 1", read("p+0+1").curve(0, 5), 10);
        // Only at 9 the upright one is apart from three others, only at -9 it is there.
        due("ask for b 0, c 9", read("p+0+9").curve(0, 5), 18);
        due("ask for b 0, c -9", read("p+0-9").curve(0, 5), 0);
        about("6 curve, ASK: one that is left is left by all x");
        CellPlane x = read("l+0+5");
        x.see(0, 5, 7, 1);
        due("sorts", x.curve(0, 4), 8);
        due("ask", x.curve(0, 5), 0);
    }

    private static void askOfNone() {
        about("6 curve, ASK: none, if there are none (NONE)");
        CellPlane x = read("p+0+0,p+0+0");
        x.see(0, 0, 0, 1);
        due("all are on 0, 0", x.curve(0, 4), 31);
        x.see(0, 0, 0, 0);
        due("sorts", x.curve(0, 4), 0);
        due("ask", x.curve(0, 5), NONE);
        due("sorts of the other one", x.curve(1, 4), 31);
        due("ask for the other one", x.curve(1, 5), 0);
        x.forget();
        due("ask again", x.curve(0, 5), 0);
    }

    private static void asNone() {
        about("7 as: NONE: it is none such");
        String[] such = {"0", "01", "012", "03", "04"};
        for (int kind = 0; kind <= 4; kind++) {
            CellPlane x = read("h+0+0," + "plhuf".charAt(kind) + "+0+0");
            for (int as = 0; as <= 4; as++) {
                dueOf(x, such[kind].indexOf('0' + as) >= 0 ? 1 : NONE, "as", 1, as);
            }
        }
    }

    private static void pointsEachOnce() {
        about("8 point: each once, of the same function none");
        due("of one function twice", read("p+3+1,p+3+1").count(1), 0);
        due("of a level one and a line that is one", read("h+7+1,l+0+1").count(1), 0);
        due("of those that never meet", read("l+1+0,l+1+1").count(1), 0);
        due("of two upright ones at one x", read("u+0+4,u+1+4").count(1), 1);
        CellPlane x = read("l+1+0,l-1+0,p+0+0,u+0+0");
        due("of all at 0, and at -1 and 1", x.count(1), 3);
        due("pairs at 0", x.point(1, 2), 3);
        due("upright ones at 0", x.point(1, 3), 1);
        due("pairs at -1", x.point(0, 2), 1);
        CellPlane y = read("p+0-2,h+0+0,f+0+2,l+0+0");
        due("of like roots", y.count(1), 2);
        due("pairs there", y.point(0, 2), 5);
        due("no fraction", y.point(0, 1), 0);
        due("a fraction", read("l+9+0,h+0+1").point(0, 1), 1);
        due("whole", read("p+0-4,h+0+0").point(0, 1), 1);
        due("half of an odd one", read("p+1+0,h+0+2").point(0, 1), 1);
    }

    private static void pointsRoundedDown() {
        about("8 point: 1000 times its x, rounded down (told as 100000 more)");
        String[] planes = {"p+9-9,l-9+9", "p-9-9,l+9+9", "l+1-9,h+0+9", "l-1-9,h+0+9", "l+3+0,h+0+1", "l+3+0,h+0-1",
            "l+8+0,h+0-1", "l+0+0,l+7+1", "p+0+0,h+0+2", "u+0-9", "u+0+9", "u+0+0"};
        int[] first = {81050, 99050, 118000, 82000, 100333, 99666, 99875, 99857, 98585, 91000, 109000, 100000};
        for (int i = 0; i < planes.length; i++) {
            due("the first point of " + planes[i], read(planes[i]).point(0, 0), first[i]);
        }
        due("the last point of " + planes[0], read(planes[0]).point(1, 0), 100949);
        due("the last point of " + planes[1], read(planes[1]).point(1, 0), 118949);
    }

    /** Each two of kinds that can meet, at all distances of their b and c. */
    private static void pointsOfAllPairs() {
        about("8 point: rounded down, for all pairs of CURVES that meet");
        String[] kinds = {"pl", "lp", "fl", "pf", "fp", "ll"};
        int[] squares = {1, -1, -1, 2, -2, 0};
        for (int pair = 0; pair < kinds.length; pair++) {
            for (int b = -18; b <= 18; b++) {
                for (int c = -18; c <= 18; c++) {
                    CellPlane x = read(kinds[pair].charAt(0) + signed(b - b / 2) + signed(c - c / 2) + ","
                            + kinds[pair].charAt(1) + signed(-(b / 2)) + signed(-(c / 2)));
                    pointsAre(x, squares[pair], b, c);
                }
            }
        }
    }

    private static String signed(int number) {
        return (number < 0 ? "-" : "+") + Math.abs(number);
    }

    /** The points are where a times x times x, b times x, and c is 0. */
    private static void pointsAre(CellPlane x, int a, int b, int c) {
        int under = b * b - 4 * a * c;
        if (a == 0 && b == 0 || under < 0) {
            due("points", x.count(1), 0);
            return;
        }
        int root = (int) Math.round(Math.sqrt(under));
        boolean square = root * root == under;
        List<Integer> want = new ArrayList<>();
        for (int way = -1; way <= 1; way += 2) {
            int down = a == 0 ? Math.floorDiv(-1000 * c, b) : thousandthsDown(way * Integer.signum(a), a, b, under);
            if (a != 0 && under != 0 || way < 0) {
                want.add(down);
            }
        }
        due("points", x.count(1), want.size());
        for (int point = 0; point < want.size(); point++) {
            due("point " + point + " of " + a + ", " + b + ", " + c, x.point(point, 0), 100000 + want.get(point));
            due("a fraction, of " + a + ", " + b + ", " + c, x.point(point, 1), a == 0 || square ? 1 : 0);
        }
    }

    /** The greatest whole t with 2 a t at most 1000 times less b and way times the root, by trying. */
    private static int thousandthsDown(int way, int a, int b, int under) {
        int part = 2 * Math.abs(a);
        int turned = a < 0 ? b : -b;
        int turnedWay = a < 0 ? -way : way;
        int t = (int) Math.floor(1000.0 * (turned + turnedWay * Math.sqrt(under)) / part) + 2;
        while (!atMostRoot((long) part * t - 1000L * turned, turnedWay, 1000000L * under)) {
            t--;
        }
        return t;
    }

    /** Whether a number is at most way times the root of a square. */
    private static boolean atMostRoot(long number, int way, long square) {
        if (way > 0) {
            return number <= 0 || number * number <= square;
        }
        return number <= 0 && number * number >= square;
    }

    private static void fewestAndMostCells() {
        about("9 stack: the fewest cells and the most");
        due("one cell", read("u+0+0,u+0+1,u+0+2,u+0+3").stack(8), 1);
        CellPlane x = read("p+3+0,p+8-2,l-5+8,f+5+5");
        countsAre(x, 4, 11, 23, 185, 81, 0, 0, 1, 0, 5, 0);
        int[] points = {86271, 91101, 97234, 98841, 100309, 100400, 100728, 100898, 101265, 102158, 109690};
        for (int point = 0; point < points.length; point++) {
            due("point " + point, x.point(point, 0), points[point]);
            due("pairs at point " + point, x.point(point, 2), 1);
            due("cells at point " + point, x.stack(2 * point + 1), 7);
            due("cells behind point " + point, x.stack(2 * point + 2), 9);
        }
        due("cells ahead of all", x.stack(0), 9);
        due("the topmost cell", x.cell(22, 8, 0), 0);
        about("18 pieces: of the most cells");
        due("all of them", x.pieces(0, 0), 1);
        due("off all curves: each curve and each crossing makes one more", x.pieces(0, 4444), 1 + 4 + 11);
        due("on some curve", x.pieces(1, 2222), 1);
        // A curve is cut by its crossings: two with each other one, one of a curve with a curve.
        int[] alone = {2444, 4244, 4424, 4442};
        int[] arcs = {6, 6, 7, 7};
        for (int curve = 0; curve < 4; curve++) {
            due("on curve " + curve + " alone", x.pieces(0, alone[curve]), arcs[curve]);
        }
        due("off some curve", x.pieces(1, 4444), 1);
        about("11 neighbours: the fewest and the most");
        due("one below, no point", read("h+0+0").neighbours(0, 2), 1);
        due("of four that meet at one point", read("l+1+0,l+2+0,l+3+0,l+4+0").neighbours(1, 1), 2 + 9 + 9);
    }

    private static void putUpToFour() {
        about("12 put: FULL: there are four");
        CellPlane x = read("h+0+0");
        for (int curves = 2; curves <= 4; curves++) {
            due("put()", x.put(2, 0, curves), curves);
        }
        due("a fifth one", x.put(2, 0, 0), FULL);
        due("curves", x.count(0), 4);
        due("take()", x.take(0), 1);
        due("a fourth one again", x.put(2, 0, 9), 4);
        due("it is behind all others", x.curve(3, 2), 18);
        due("its name", x.curve(3, 3), 5);
        CellPlane y = read("h+0+0,h+0+1,h+0+2,h+0+3");
        due("a fifth one, by put()", y.put(2, 0, 4), FULL);
    }

    private static void takeDownToOne() {
        about("13 take: those behind it have numbers 1 less; STATE: it is the only one");
        CellPlane x = read("p+0+0,l+1+1,h+2+2,u+3+3");
        due("take(1)", x.take(1), 2);
        for (int curve = 0; curve < 3; curve++) {
            due("name of " + curve, x.curve(curve, 3), new int[] {1, 3, 4}[curve]);
            due("kind of " + curve, x.curve(curve, 0), new int[] {0, 2, 3}[curve]);
        }
        due("take(2), the last", x.take(2), 4);
        due("take(0), the first", x.take(0), 1);
        due("take(0), the only one", x.take(0), STATE);
        due("its name", x.curve(0, 3), 3);
        due("curves", x.count(0), 1);
    }

    private static void seenStaysWithTheNumbers() {
        about("13 take: what is SEEN stays with the numbers");
        CellPlane x = read("h+0+0,h+0+1,h+0+2");
        x.see(2, 0, 0, 0);
        x.see(0, 0, 0, 1);
        due("take(0)", x.take(0), 1);
        due("what is seen", x.count(5), 2);
        due("sorts of 0, for 0, 0 is on it", x.curve(0, 4), 0);
        due("sorts of 1, of which nothing is seen", x.curve(1, 4), 31);
        due("see(2, ..) of none", x.see(2, 0, 0, 0), UNKNOWN);
        due("put()", x.put(2, 0, -1), 3);
        due("sorts of 2 again, for 0, 0 is above it", x.curve(2, 4), 31);
        due("move(2, 0, 1)", x.move(2, 0, 1), 5);
        due("sorts of 2 then", x.curve(2, 4), 0);
    }

    private static void moveAndChangeKeepTheRest() {
        about("14 move, 15 change: a CURVE keeps its NAME, and what is SEEN stays");
        CellPlane x = read("p+0+0,h+0+2");
        x.see(0, 1, 1, 1);
        due("move() to where they do not meet", x.move(0, 0, 3), 5);
        due("points then", x.count(1), 0);
        due("move() to where they touch", x.move(0, 0, 2), 13);
        due("move() to its own place", x.move(0, 0, 2), 13);
        due("change() to its own kind", x.change(0, 0), 0);
        due("change()", x.change(0, 3), 0);
        due("change() back", x.change(0, 0), 3);
        due("name", x.curve(0, 3), 1);
        due("b", x.curve(0, 1), 9);
        due("c", x.curve(0, 2), 11);
        due("what is seen", x.count(5), 1);
        due("the next name", x.count(9), 3);
    }

    private static void mirrorOfTheOutermost() {
        about("16 mirror: B, and C of UPRIGHT ones, are less than 0 times what they were");
        CellPlane x = read("p-9+9,l+9-9,u+9-9,u+0+9");
        int cells = x.count(3);
        due("mirror()", x.mirror(), cells);
        int[][] want = {{18, 18}, {0, 0}, {0, 18}, {9, 0}};
        for (int curve = 0; curve < 4; curve++) {
            due("b of " + curve, x.curve(curve, 1), want[curve][0]);
            due("c of " + curve, x.curve(curve, 2), want[curve][1]);
            due("name of " + curve, x.curve(curve, 3), curve + 1);
        }
        due("mirror() of one curve", read("f+9+0").mirror(), 3);
    }

    private static void cutAnewByEachChange() {
        CellPlane x = read("p+0+0");
        countsAre(x, 1, 0, 1, 3, 1);
        about("12 put: the plane is cut by the new CURVE, too");
        x.put(1, 1, 2);
        countsAre(x, 2, 2, 5, 21, 8);
        due("the first point", x.point(0, 0), 99000);
        about("14 move: the plane is cut where the CURVE is then");
        due("move(1, 1, 0)", x.move(1, 1, 0), 21);
        due("the first point", x.point(0, 0), 100000);
        about("15 change: the plane is cut by the CURVE as it is then");
        due("change(1, 2)", x.change(1, 2), 1);
        countsAre(x, 2, 1, 3, 13, 5);
        due("change(1, 1)", x.change(1, 1), 2);
        about("16 mirror: the plane is cut anew; what is SEEN stays");
        x.see(1, 2, 2, 1);
        due("sorts ahead", x.curve(1, 4), 2);
        due("mirror()", x.mirror(), 21);
        due("the first point", x.point(0, 0), 99000);
        due("sorts then", x.curve(1, 4), 1);
        due("mirror() again", x.mirror(), 21);
        due("sorts as they were", x.curve(1, 4), 2);
        about("13 take: the plane is not cut by the CURVE any more");
        due("take(1)", x.take(1), 2);
        countsAre(x, 1, 0, 1, 3, 1);
        due("the second stack", x.stack(1), UNKNOWN);
        due("the cell above all", x.cell(0, 2, 0), 0);
        due("a cell above that", x.cell(0, 3, 0), UNKNOWN);
    }

    private static void formsOfCurvesThatThereAreNot() {
        about("17 sentence, 18 pieces: figures of CURVES that there are not are not looked at");
        CellPlane x = read("h+0+0,h+0+1");
        for (int figure = 0; figure <= 6; figure++) {
            int none = 11 * figure;
            dueOf(x, 1, "sentence", 1, 1, 0, none);
            dueOf(x, 0, "sentence", 0, 0, 1, none);
            dueOf(x, 1, "pieces", 0, none);
            dueOf(x, 0, "pieces", 1, none);
            dueOf(x, 1, "pieces", 0, 2300 + none);
            dueOf(x, 1, "pieces", 1, 2000 + none);
        }
        about("17 sentence, 18 pieces: a figure above 6 is OUTSIDE, also of a CURVE that there is not");
        dueOf(x, OUTSIDE, "sentence", 0, 0, 0, 7);
        dueOf(x, OUTSIDE, "pieces", 0, 70);
    }

    private static void formsOfNone() {
        about("17 sentence, 18 pieces: by mode 1 never, if there is none such; by mode 0 whatever holds");
        CellPlane x = read("h+0+0,p+0+1,u+0+0,f+0-1");
        for (int first = 0; first <= 1; first++) {
            for (int second = 0; second <= 1; second++) {
                dueOf(x, 0, "sentence", first, second, 1, 0);
                dueOf(x, 1, "sentence", first, second, 0, 0);
            }
        }
        dueOf(x, 0, "pieces", 1, 0);
        dueOf(x, 1, "pieces", 0, 0);
        about("17 sentence: the four ways to begin");
        CellPlane y = read("u+0+0,h+0+0");
        int[][] want = {{0, 0, 2000, 1}, {0, 1, 2000, 1}, {1, 0, 2000, 0}, {1, 1, 2000, 0},
            {0, 0, 200, 1}, {0, 1, 200, 0}, {1, 0, 200, 1}, {1, 1, 200, 0}};
        for (int[] s : want) {
            dueOf(y, s[3], "sentence", s[0], s[1], 0, s[2]);
            dueOf(y, s[3], "sentence", s[0], s[1], 1, s[2]);
        }
    }

    /** On one curve alone a form of one figure holds below it, on it, above it, or in two of these. */
    private static void everyFigure() {
        about("18 pieces: 0 whatever, 1 BELOW, 2 ON, 3 ABOVE, 4 not ON, 5 not BELOW, 6 not ABOVE");
        int[] pieces = {1, 1, 1, 1, 2, 1, 1};
        // The curve is BELOW cells above it, and ABOVE those below it.
        String[] sides = {"012", "0", "1", "2", "02", "12", "01"};
        int[] places = {1000, 100, 10, 1};
        for (int curve = 0; curve < 4; curve++) {
            CellPlane x = read("h+0+0,h+0+0,h+0+0,h+0+0");
            for (int figure = 0; figure <= 6; figure++) {
                dueOf(x, pieces[figure], "pieces", 0, figure * places[curve]);
                dueOf(x, figure == 0 ? 0 : pieces[figure], "pieces", 1, figure * places[curve]);
                for (int side = 0; side <= 2; side++) {
                    // For some y the curve is as the figure says, and, by another curve's figure, at this side.
                    int other = (1 + side) * places[(curve + 1) % 4];
                    dueOf(x, sides[figure].indexOf('0' + side) >= 0 ? 1 : 0,
                            "sentence", 1, 0, 0, figure * places[curve] + other);
                }
            }
        }
    }

    private static void looseOfLikeOnes() {
        about("19 loose: of like ones the least number");
        due("two alike", read("h+0+0,h+0+1").loose(), 0);
        due("four alike", read("h+0+0,h+0+1,h+0+2,h+0+3").loose(), 0);
        due("the second and third alike", read("f+0-9,l+1+0,l-1+0").loose(), 1);
        due("the third and fourth alike", read("f+0-9,f+0-8,l+1+0,l-1+0").loose(), 2);
        due("the first and last alike", read("l+1+0,f+0-9,l-1+0").loose(), 0);
        due("the last one alone", read("h+0+0,h+0+1,h+0+2,l+1+0").loose(), 3);
        due("a curve and the same curve", read("p+0+0,p+0+0,h+0-1").loose(), 2);
        due("an upright one", read("h+0+0,u+0+0").loose(), 0);
    }

    private static void looseOfOne() {
        about("19 loose: none, if there is but one (NONE)");
        for (char kind : "plhuf".toCharArray()) {
            due("loose() of " + kind, read(kind + "+0+0").loose(), NONE);
        }
        CellPlane x = read("p+0+0,h+0+1");
        x.take(0);
        due("loose() of one that is left", x.loose(), NONE);
        x.put(3, 0, 0);
        due("loose() of two again", x.loose(), 0);
    }

    private static void seenUpToSix() {
        about("20 see: FULL (6 at most)");
        CellPlane x = read("p+0+0,h+0+0");
        for (int seen = 1; seen <= 6; seen++) {
            due("see()", x.see(seen % 2, 0, 0, 1), seen);
        }
        due("a seventh one", x.see(0, 0, 0, 0), FULL);
        due("a seventh one of the other", x.see(1, 0, 0, 0), FULL);
        due("what is seen", x.count(5), 6);
        due("it was not seen", x.curve(0, 4), 31);
        about("21 forget: how much was (full)");
        due("forget()", x.forget(), 6);
        due("a first one again", x.see(0, 0, 0, 0), 1);
        due("it was seen", x.curve(0, 4), 0);
    }

    private static void forgetNothing() {
        about("21 forget: how much was (nothing)");
        CellPlane x = new CellPlane();
        due("forget() of no plane", x.forget(), 0);
        readAlso(x, "p+0+0");
        due("forget() of nothing", x.forget(), 0);
        x.see(0, 0, 0, 1);
        due("forget() of one", x.forget(), 1);
        due("forget() again", x.forget(), 0);
        due("what is seen", x.count(5), 0);
    }

    private static void diceGoOn() {
        about("22 dice: the next SEED each time, its rest by 2 to the 31");
        CellPlane x = new CellPlane();
        BigInteger seed = BigInteger.ONE;
        for (int number = 1; number <= MOST_CALLS; number++) {
            seed = seed.multiply(BigInteger.valueOf(1103515245)).add(BigInteger.valueOf(12345))
                    .mod(BigInteger.TWO.pow(31));
            int sides = number % 2 == 0 ? 1000 : 1 + number % 1000;
            due("throw " + number, x.dice(sides), seed.divide(BigInteger.valueOf(65536)).intValueExact() % sides);
        }
    }

    private static void diceOfFewSides() {
        about("22 dice: a number of 0 to sides less 1");
        CellPlane x = new CellPlane();
        boolean[] came = new boolean[2];
        for (int number = 0; number < 100; number++) {
            due("dice(1)", x.dice(1), 0);
            int thrown = x.dice(2);
            due("dice(2) is 0 or 1", thrown & ~1, 0);
            came[thrown & 1] = true;
        }
        due("both came", came[0] && came[1] ? 1 : 0, 1);
    }

    private static void ringComesAround() {
        about("23 latest: the latest 8 answers, from the latest one back; UNKNOWN: there are not so many");
        CellPlane x = read("h+0+0");
        due("latest(0) of none", x.latest(0), UNKNOWN);
        List<Integer> answers = new ArrayList<>();
        for (int number = 0; number < 27; number++) {
            // The answers differ from those eight, sixteen and 24 ahead of them, too.
            int answer = (number * number / 3 + number / 8) % 2;
            due("sentence " + number, x.sentence(1, 1 - answer, 0, 2000), answer);
            answers.add(0, answer);
            for (int back = 0; back <= 9; back++) {
                boolean known = back < Math.min(8, answers.size());
                due("latest(" + back + ") behind sentence " + number, x.latest(back),
                        known ? answers.get(back) : UNKNOWN);
            }
            due("answers", x.count(10), Math.min(8, answers.size()));
            due("sentences", x.count(8), answers.size());
        }
    }

    private static void imageIsTheLatest() {
        about("24 image: one; the latest");
        CellPlane x = read("p+0+0,h+0+2");
        due("image()", x.image(), 2);
        x.see(0, 1, 1, 1);
        x.put(3, 0, 1);
        due("image() again", x.image(), 3);
        x.take(0);
        x.take(0);
        due("restore()", x.restore(), 3);
        due("what is seen", x.count(5), 1);
        due("curve(2, 0)", x.curve(2, 0), 3);
        due("restore() again", x.restore(), 3);
    }

    private static void imageIsNotTouched() {
        about("24 image, 25 restore: an IMAGE keeps the CURVES, NAMES, SEEN");
        CellPlane x = read("p+1-2,h+3+4,u-5+6");
        x.see(1, 2, 7, 0);
        x.see(2, 2, -1, 2);
        due("sorts of 1", x.curve(1, 4), 4 + 16);
        due("sorts of 2", x.curve(2, 4), 1 + 4 + 8);
        long all = x.digest();
        x.image();
        for (int again = 0; again < 3; again++) {
            x.move(0, 9, 9);
            x.change(1, 4);
            x.take(2);
            x.mirror();
            due("forget()", x.forget(), 2);
            x.see(0, -3, 1, 1);
            x.see(0, -3, 1, 1);
            due("restore()", x.restore(), 3);
            due("sorts of 0", x.curve(0, 4), 31);
            due("sorts of 1 again", x.curve(1, 4), 4 + 16);
            due("sorts of 2 again", x.curve(2, 4), 1 + 4 + 8);
            due("digest() of what it was", x.digest(), all);
        }
        x.put(1, 1, 1);
        x.take(0);
        due("restore()", x.restore(), 3);
        due("the next name goes on", x.count(9), 5);
        due("names are as they were", x.curve(0, 3), 1);
        due("of the last one, too", x.curve(2, 3), 3);
    }

    private static void restoreWithAnotherPlane() {
        about("25 restore: STATE: none was kept");
        CellPlane x = new CellPlane();
        due("of a new house", x.restore(), STATE);
        due("image() without a plane", x.image(), STATE);
        due("none was kept by that", x.restore(), STATE);
        readAlso(x, "p+0+0");
        due("of a plane", x.restore(), STATE);
        about("25 restore: STATE: there is another PLANE since");
        x.image();
        write(x, "p+0");
        due("plane() that is none", x.plane(), STATE);
        due("restore(): no other plane was read", x.restore(), 1);
        write(x, "+0");
        due("plane(), of the same letters", x.plane(), 1);
        due("restore()", x.restore(), STATE);
        due("the name stays", x.curve(0, 3), 2);
        due("image()", x.image(), 1);
        due("restore() of that", x.restore(), 1);
    }

    private static void namesAreGivenOnce() {
        about("NAMES: each CURVE that comes has the next number from 1 on, and keeps it");
        CellPlane x = read("p+0+0,h+0+1");
        due("put()", x.put(2, 0, 2), 3);
        due("take(2)", x.take(2), 3);
        due("put() again", x.put(2, 0, 2), 3);
        due("a number that was not given", x.curve(2, 3), 4);
        x.put(9, 0, 0);
        x.put(0, 10, 0);
        due("refused ones have none", x.count(9), 5);
        x.put(2, 0, 3);
        x.put(2, 0, 4);
        due("nor has a fifth one", x.count(9), 6);
        readAlso(x, "u+0+0,u+0+1");
        due("of another plane", x.curve(0, 3), 6);
        due("the next one", x.count(9), 8);
    }

    private static void acrossAllCalls() {
        about("ACROSS all calls: they go on where another PLANE is read, or an IMAGE is gone back to");
        CellPlane x = read("h+0+0");
        due("sentence()", x.sentence(0, 0, 0, 2000), 1);
        due("first throw", x.dice(1000), 838);
        x.image();
        due("sentence()", x.sentence(0, 1, 0, 2000), 0);
        due("second throw", x.dice(1000), 758);
        write(x, "u+1");
        due("restore()", x.restore(), 1);
        countsAre(x, 1, 0, 1, 3, 1, 0, 3, 1, 2, 2, 2);
        due("the latest", x.latest(0), 0);
        x.dice(1);
        due("fourth throw", x.dice(1000), 515);
        write(x, "-9");
        due("plane()", x.plane(), 1);
        countsAre(x, 1, 1, 3, 3, 0, 0, 0, 2, 2, 3, 2);
        due("the latest", x.latest(0), 0);
        due("the one ahead of it", x.latest(1), 1);
        due("fifth throw", x.dice(1000), 51);
    }

    private static void countsOfNoPlane() {
        about("26 count: 2 STACKS (0: no PLANE)");
        CellPlane x = new CellPlane();
        write(x, "h+0+0");
        countsAre(x, 0, 0, 0, 0, 0, 0, 5, 0, 0, 1, 0);
        x.plane();
        countsAre(x, 1, 0, 1, 3, 1, 0, 0, 1, 0, 2, 0);
    }

    private static void digestWraps() {
        about("27 digest: as longs, wrapping");
        CellPlane x = new CellPlane();
        due("of no plane", x.digest(), wrapped(0, 0, 0, 0, 0, 0, 0, 0, 0, 1, 0));
        x.letter('~');
        due("of a letter", x.digest(), wrapped(126, 0, 0, 0, 0, 0, 0, 1, 0, 0, 1, 0));
        x.blank();
        readAlso(x, "u+0+0");
        x.see(0, 0, 0, 0);
        x.sentence(0, 0, 0, 0);
        x.letter(1);
        // An ASK that is NONE goes in as it is told, -1.
        due("of an upright one", x.digest(), wrapped(3, 9, 9, 1, 0, -1, 100000, 1, 0, 1, 1, 2, 1, 1, 1, 0, 1, 1, 1,
                1, 1, 3, 3, 0, 1, 1, 1, 1, 2, 1));
        due("it is less than 0 in some house", someDigestIsNegative() ? 1 : 0, 1);
    }

    private static long wrapped(int... numbers) {
        BigInteger h = BigInteger.valueOf(1433);
        for (int number : numbers) {
            h = h.multiply(BigInteger.valueOf(31)).add(BigInteger.valueOf(number));
        }
        return h.longValue();
    }

    private static boolean someDigestIsNegative() {
        boolean negative = false;
        for (int c = 0; c <= 9 && !negative; c++) {
            negative = read("p+0+" + c).digest() < 0;
        }
        return negative;
    }

    private static void lastCallOfAHouse() {
        about("an object is used for at most 512 calls");
        CellPlane x = read("p+0-9,f+0+9,l+1+0,u+0+2");
        int calls = 1 + 23 + 1;
        int sentences = 0;
        for (; calls < MOST_CALLS - 1; calls++) {
            x.sentence(calls % 2, calls / 2 % 2, calls / 4 % 2, 1234);
            sentences++;
        }
        due("the last call", x.count(8), sentences);
    }
}
