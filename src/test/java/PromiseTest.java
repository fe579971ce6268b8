import java.util.function.Supplier;

/** For each promise of the document: ordinary inputs, its edges, and wrong inputs. */
public final class PromiseTest extends Checks {
    public static void main(String[] args) {
        newObject();
        letter();
        blank();
        fault();
        plane();
        curve();
        curveSorts();
        as();
        point();
        stack();
        cell();
        neighbours();
        put();
        take();
        move();
        change();
        mirror();
        sentence();
        pieces();
        loose();
        see();
        forget();
        dice();
        latest();
        image();
        restore();
        count();
        digest();
        finish();
    }

    private static int faultOf(String text) {
        CellPlane x = new CellPlane();
        write(x, text);
        return x.fault();
    }

    private static void newObject() {
        about("promise 1");
        CellPlane old = read("p+0+0,h+0+2");
        old.sentence(0, 0, 0, 0);
        old.dice(6);
        CellPlane x = new CellPlane();
        for (int what = 0; what <= 10; what++) {
            due("count(" + what + ")", x.count(what), what == 9 ? 1 : 0);
        }
        due("first throw", x.dice(1000), 838);
        due("latest(0)", x.latest(0), UNKNOWN);
        due("mirror()", x.mirror(), STATE);
        due("curve(0, 0)", x.curve(0, 0), UNKNOWN);
        write(x, "u+0+0");
        due("plane()", x.plane(), 1);
        due("first name", x.curve(0, 3), 1);
        due("NONE", CellPlane.NONE, -1);
        due("UNKNOWN", CellPlane.UNKNOWN, -101);
        due("OUTSIDE", CellPlane.OUTSIDE, -102);
        due("STATE", CellPlane.STATE, -103);
        due("FULL", CellPlane.FULL, -104);
    }

    private static void letter() {
        about("promise 2");
        CellPlane x = new CellPlane();
        for (int code : new int[] {0, -1, 127, LEAST, MOST}) {
            due("letter(" + code + ")", x.letter(code), OUTSIDE);
        }
        due("letter(1)", x.letter(1), 1);
        due("letter(126)", x.letter(126), 2);
        for (int i = 3; i <= 24; i++) {
            due("letter " + i, x.letter(112), i);
        }
        due("letter 25", x.letter(112), FULL);
        due("letter 25, outside", x.letter(127), OUTSIDE);
        due("letters", x.count(6), 24);
        due("blank()", x.blank(), 24);
        due("letter again", x.letter(112), 1);
    }

    private static void blank() {
        about("promise 3");
        CellPlane x = new CellPlane();
        due("blank() of nothing", x.blank(), 0);
        write(x, "p+0");
        due("blank()", x.blank(), 3);
        due("blank() again", x.blank(), 0);
        due("fault()", x.fault(), 0);
        write(x, "h+0+0");
        due("plane()", x.plane(), 1);
    }

    private static void fault() {
        about("promise 4");
        due("empty", faultOf(""), 0);
        due("a start", faultOf("p"), 1);
        due("a longer start", faultOf("p+0"), 3);
        due("a whole one", faultOf("l-9+9"), 5);
        due("a comma more", faultOf("l-9+9,"), 6);
        due("two commas", faultOf("l-9+9,,"), 6);
        due("four curves", faultOf("p+0+0,l+0+0,h+0+0,f-0-0"), 23);
        due("four curves and a comma", faultOf("p+0+0,l+0+0,h+0+0,f-0-0,"), 23);
        due("four curves and another letter", faultOf("p+0+0,l+0+0,h+0+0,f-0-0p"), 23);
        due("no kind", faultOf("q+0+0"), 0);
        due("a capital", faultOf("P+0+0"), 0);
        due("no sign", faultOf("p0"), 1);
        due("no digit", faultOf("p++"), 2);
        due("below the digits", faultOf("p+/"), 2);
        due("above the digits", faultOf("p+9-:"), 4);
        due("no second sign", faultOf("p+00"), 3);
        due("no comma", faultOf("p+0+0u"), 5);
        due("the first of two faults", faultOf("p+x+x"), 2);
        due("a fault in the second curve", faultOf("u+0+0,a+0+0"), 6);
        for (char kind : "plhuf".toCharArray()) {
            due("kind " + kind, faultOf(kind + "+0"), 3);
        }
    }

    private static void plane() {
        about("promise 5");
        CellPlane x = new CellPlane();
        due("plane() of nothing", x.plane(), STATE);
        write(x, "p+0+");
        due("plane() of a start", x.plane(), STATE);
        due("the page stays", x.count(6), 4);
        write(x, "0,");
        due("plane() of a comma more", x.plane(), STATE);
        write(x, "h-3-2,u-0+9,f+9-9");
        due("plane() of four", x.plane(), 4);
        due("the page is empty", x.count(6), 0);
        int[][] want = {{0, 9, 9, 1}, {2, 6, 7, 2}, {3, 9, 18, 3}, {4, 18, 0, 4}};
        for (int curve = 0; curve < 4; curve++) {
            for (int what = 0; what < 4; what++) {
                due("curve(" + curve + ", " + what + ")", x.curve(curve, what), want[curve][what]);
            }
        }
        due("see", x.see(0, 0, 0, 0), 1);
        due("sentence", x.sentence(0, 0, 0, 0), 1);
        write(x, "l+1+1,l+2+2");
        due("another plane", x.plane(), 2);
        due("its first name", x.curve(0, 3), 5);
        due("the next name", x.count(9), 7);
        due("planes read", x.count(7), 2);
        due("nothing is seen of it", x.count(5), 0);
        due("the ring goes on", x.count(10), 1);
        write(x, "p+0+0,l+0+0,h+0+0,f-0-0,");
        due("plane() of 24 letters", x.plane(), STATE);
        due("the plane stays", x.count(0), 2);
        due("planes read then", x.count(7), 2);
        due("the next name then", x.count(9), 7);
    }

    private static void curve() {
        about("promise 6");
        CellPlane x = read("l-9+9,h+9-9");
        due("kind", x.curve(0, 0), 1);
        due("b", x.curve(0, 1), 0);
        due("c", x.curve(0, 2), 18);
        due("name", x.curve(1, 3), 2);
        due("b where it does not matter", x.curve(1, 1), 18);
        due("sorts", x.curve(0, 4), 31);
        for (int curve : new int[] {-1, 2, 4, LEAST, MOST}) {
            due("curve(" + curve + ", 0)", x.curve(curve, 0), UNKNOWN);
            due("curve(" + curve + ", 6)", x.curve(curve, 6), UNKNOWN);
        }
        for (int what : new int[] {-1, 6, LEAST, MOST}) {
            due("curve(0, " + what + ")", x.curve(0, what), OUTSIDE);
        }
    }

    private static void curveSorts() {
        CellPlane x = read("p+0+1,f+0+1");
        due("ask of all sorts", x.curve(0, 5), 10);
        due("see", x.see(0, 2, 1, 1), 1);
        due("sorts: a line, a level one", x.curve(0, 4), 6);
        due("ask: all x alike", x.curve(0, 5), 0);
        due("sorts of the other", x.curve(1, 4), 31);
        due("see", x.see(1, 3, 0, 2), 2);
        due("sorts above", x.curve(1, 4), 7);
        due("see", x.see(1, 3, 1, 2), 3);
        due("one sort", x.curve(1, 4), 1);
        due("ask of one sort", x.curve(1, 5), 0);
        due("see", x.see(1, 3, 1, 0), 4);
        due("no sort", x.curve(1, 4), 0);
        due("ask of none", x.curve(1, 5), NONE);
        CellPlane y = read("l+0+5");
        due("see", y.see(0, 5, 7, 1), 1);
        due("an upright one by its x alone", y.curve(0, 4), 8);
        CellPlane z = read("u+3+5");
        due("see", z.see(0, 4, 9, 2), 1);
        due("sorts: b is not looked at by level, upright ones", z.curve(0, 4), 1 + 2 + 8);
        due("ask", z.curve(0, 5), 0);
    }

    private static void as() {
        about("promise 7");
        CellPlane x = read("p+0+1,l+0+1,h+0+1,u+0+1");
        int[][] want = {{0, NONE, NONE, NONE, NONE}, {1, 1, NONE, NONE, NONE},
            {2, 2, 2, NONE, NONE}, {3, NONE, NONE, 3, NONE}};
        for (int curve = 0; curve < 4; curve++) {
            for (int kind = 0; kind < 5; kind++) {
                due("as(" + curve + ", " + kind + ")", x.as(curve, kind), want[curve][kind]);
            }
        }
        CellPlane y = read("f+0+1");
        due("a falling one as a curve", y.as(0, 0), 0);
        due("a falling one as a line", y.as(0, 1), NONE);
        due("a falling one as itself", y.as(0, 4), 0);
        for (int kind : new int[] {-1, 5, LEAST, MOST}) {
            due("as(0, " + kind + ")", y.as(0, kind), OUTSIDE);
            due("as(1, " + kind + ")", y.as(1, kind), UNKNOWN);
            due("as(-1, " + kind + ")", y.as(-1, kind), UNKNOWN);
        }
    }

    private static void points(String text, int[][] want) {
        CellPlane x = read(text);
        due("points of " + text, x.count(1), want.length);
        for (int point = 0; point < want.length; point++) {
            for (int what = 0; what < 4; what++) {
                due("point(" + point + ", " + what + ") of " + text, x.point(point, what), want[point][what]);
            }
        }
        due("the point behind all of " + text, x.point(want.length, 0), UNKNOWN);
    }

    private static void point() {
        about("promise 8");
        points("p+0+0,h+0+2", new int[][] {{98585, 0, 1, 0}, {101414, 0, 1, 0}});
        points("l+2+0,h+0+1", new int[][] {{100500, 1, 1, 0}});
        points("l+3+0,h+0-1", new int[][] {{99666, 1, 1, 0}});
        points("p+0+0,h+0+4", new int[][] {{98000, 1, 1, 0}, {102000, 1, 1, 0}});
        points("p+0+0,h+0+0", new int[][] {{100000, 1, 1, 0}});
        points("p+0+1,h+0+0", new int[][] {});
        points("l+1+1,l+1+0", new int[][] {});
        points("p+0+0,p+1+0", new int[][] {{100000, 1, 1, 0}});
        points("p+0+0,f+0+1", new int[][] {{99292, 0, 1, 0}, {100707, 0, 1, 0}});
        points("l+1+0,l-1+0,h+0+0,u+0+0", new int[][] {{100000, 1, 3, 1}});
        points("h+5+1,l+0+1,l+1+0", new int[][] {{101000, 1, 2, 0}});
        points("u+0+3,u+5+3,u+0-3", new int[][] {{97000, 1, 0, 1}, {103000, 1, 0, 2}});
        points("p+9-9,l-9+9", new int[][] {{81050, 0, 1, 0}, {100949, 0, 1, 0}});
        points("p+1-1,h+0+0,u+0+0", new int[][] {{98381, 0, 1, 0}, {100000, 1, 0, 1}, {100618, 0, 1, 0}});
        // One root of x times x less 2 is a root of twice that, told in other numbers, too.
        points("p+0-2,h+0+0,f+0+2", new int[][] {{98585, 0, 3, 0}, {101414, 0, 3, 0}});
        CellPlane x = read("u+0+0");
        for (int what : new int[] {-1, 4, LEAST, MOST}) {
            due("point(0, " + what + ")", x.point(0, what), OUTSIDE);
            due("point(1, " + what + ")", x.point(1, what), UNKNOWN);
        }
        due("point(-1, 0)", x.point(-1, 0), UNKNOWN);
        due("point(0, 0) of no plane", new CellPlane().point(0, 0), UNKNOWN);
    }

    private static void stack() {
        about("promise 9");
        CellPlane x = read("p+0+0,h+0+2,l+0+2");
        int[] want = {5, 3, 5, 3, 5};
        for (int stack = 0; stack < 5; stack++) {
            due("stack(" + stack + ")", x.stack(stack), want[stack]);
        }
        for (int stack : new int[] {-1, 5, LEAST, MOST}) {
            due("stack(" + stack + ")", x.stack(stack), UNKNOWN);
        }
        CellPlane y = read("u+0+0");
        due("over an upright one", y.stack(1), 1);
        due("beside it", y.stack(2), 1);
        due("without points", read("h+0+0").stack(0), 3);
        due("four curves", read("h+0+0,h+0+1,h+0+2,h+0+3").stack(0), 9);
        due("no plane", new CellPlane().stack(0), UNKNOWN);
    }

    private static void cell() {
        about("promise 10");
        CellPlane x = read("p+0+0,h+0+2,u+0+0");
        due("on the curve at 0", x.cell(3, 1, 0), 1);
        due("the level one above it", x.cell(3, 1, 1), 2);
        due("on the upright one", x.cell(3, 4, 2), 1);
        due("left of the upright one", x.cell(0, 0, 2), 2);
        due("left of it, still", x.cell(2, 3, 2), 2);
        due("right of the upright one", x.cell(4, 0, 2), 0);
        due("above all", x.cell(0, 4, 0), 0);
        due("below all", x.cell(0, 0, 1), 2);
        due("between, far left: the curve", x.cell(0, 2, 0), 2);
        due("between, far left: the level one", x.cell(0, 2, 1), 0);
        due("between, in the middle: the curve", x.cell(2, 2, 0), 0);
        due("between, in the middle: the level one", x.cell(2, 2, 1), 2);
        due("where they meet: the curve", x.cell(1, 1, 0), 1);
        due("where they meet: the level one", x.cell(1, 1, 1), 1);
        CellPlane y = read("p+0+0,h+0+0");
        due("a curve that touches is above again behind it", y.cell(2, 3, 0), 1);
        x = read("p+0+0,h+0+2,u+0+0");
        int[][] strange = {{-1, 0, 0}, {7, 0, 0}, {0, -1, 0}, {0, 5, 0}, {1, 3, 0}, {0, 0, -1}, {0, 0, 3},
            {LEAST, 0, 0}, {MOST, 0, 0}, {0, LEAST, 0}, {0, MOST, 0}, {0, 0, LEAST}, {0, 0, MOST}};
        for (int[] s : strange) {
            due("cell(" + s[0] + ", " + s[1] + ", " + s[2] + ")", x.cell(s[0], s[1], s[2]), UNKNOWN);
        }
    }

    private static void neighbours() {
        about("promise 11");
        CellPlane x = read("h+0+0,u+0+0");
        int[][] want = {{3, 3, 3}, {3, 8, 3}, {3, 3, 3}};
        for (int stack = 0; stack < 3; stack++) {
            for (int cell = 0; cell < 3; cell++) {
                due("neighbours(" + stack + ", " + cell + ")", x.neighbours(stack, cell), want[stack][cell]);
            }
        }
        CellPlane y = read("l+1+0,l-1+0");
        due("where lines cross", y.neighbours(1, 1), 12);
        due("above that", y.neighbours(1, 2), 3);
        due("between two lines", y.neighbours(0, 2), 3);
        due("a line", y.neighbours(0, 1), 3);
        CellPlane z = read("u+0+0");
        due("left of an upright one", z.neighbours(0, 0), 1);
        due("on an upright one", z.neighbours(1, 0), 2);
        CellPlane one = read("h+0+0");
        due("below a level one", one.neighbours(0, 0), 1);
        due("on a level one", one.neighbours(0, 1), 2);
        x = read("h+0+0,u+0+0");
        int[][] strange = {{-1, 0}, {3, 0}, {0, -1}, {0, 3}, {LEAST, 0}, {MOST, 0}, {0, LEAST}, {0, MOST}};
        for (int[] s : strange) {
            due("neighbours(" + s[0] + ", " + s[1] + ")", x.neighbours(s[0], s[1]), UNKNOWN);
        }
    }

    private static void put() {
        about("promise 12");
        CellPlane x = new CellPlane();
        due("put() without a plane", x.put(0, 0, 0), STATE);
        due("put() outside, without a plane", x.put(5, 0, 0), OUTSIDE);
        x = read("p+0+0");
        due("put()", x.put(4, -9, 9), 2);
        due("its kind", x.curve(1, 0), 4);
        due("its b", x.curve(1, 1), 0);
        due("its c", x.curve(1, 2), 18);
        due("its name", x.curve(1, 3), 2);
        due("points then", x.count(1), 2);
        int[][] strange = {{-1, 0, 0}, {5, 0, 0}, {0, -10, 0}, {0, 10, 0}, {0, 0, -10}, {0, 0, 10},
            {LEAST, 0, 0}, {0, MOST, 0}, {0, 0, LEAST}};
        for (int[] s : strange) {
            due("put(" + s[0] + ", " + s[1] + ", " + s[2] + ")", x.put(s[0], s[1], s[2]), OUTSIDE);
        }
        due("put()", x.put(0, 9, -9), 3);
        due("put()", x.put(3, 0, 0), 4);
        due("put() of a fifth", x.put(3, 0, 0), FULL);
        due("put() of a fifth, outside", x.put(3, 0, 10), OUTSIDE);
        due("the next name", x.count(9), 5);
    }

    private static void take() {
        about("promise 13");
        CellPlane x = read("p+0+0,h+0+2,u+0+5");
        x.see(1, 3, 5, 1);
        due("sorts ahead", x.curve(1, 4), 0);
        due("take(0)", x.take(0), 1);
        due("the next one's number", x.curve(0, 0), 2);
        due("the last one's number", x.curve(1, 3), 3);
        due("what is seen is of that number now", x.curve(1, 4), 6);
        due("what is seen", x.count(5), 1);
        due("points then", x.count(1), 1);
        due("take(2)", x.take(2), UNKNOWN);
        due("take(-1)", x.take(-1), UNKNOWN);
        due("take(least)", x.take(LEAST), UNKNOWN);
        due("take(1)", x.take(1), 3);
        due("what is seen of none", x.count(5), 1);
        due("take(1) of one", x.take(1), UNKNOWN);
        due("take(0) of one", x.take(0), STATE);
        due("curves", x.count(0), 1);
        due("put() again", x.put(2, 0, 5), 2);
        due("its name is new", x.curve(1, 3), 4);
        due("take() of no plane", new CellPlane().take(0), UNKNOWN);
    }

    private static void move() {
        about("promise 14");
        CellPlane x = read("p+0+0,h+0+2");
        due("move() to where they touch", x.move(0, 0, 2), 13);
        due("move() off", x.move(0, 0, 3), 5);
        due("b", x.move(0, -9, 9), 21);
        due("b then", x.curve(0, 1), 0);
        due("c then", x.curve(0, 2), 18);
        due("the name stays", x.curve(0, 3), 1);
        due("the kind stays", x.curve(0, 0), 0);
        int[][] strange = {{-10, 0}, {10, 0}, {0, -10}, {0, 10}, {LEAST, 0}, {0, MOST}};
        for (int[] s : strange) {
            due("move(0, " + s[0] + ", " + s[1] + ")", x.move(0, s[0], s[1]), OUTSIDE);
            due("move(2, " + s[0] + ", " + s[1] + ")", x.move(2, s[0], s[1]), UNKNOWN);
        }
        due("move(-1, 0, 0)", x.move(-1, 0, 0), UNKNOWN);
        due("nothing was moved", x.curve(0, 2), 18);
    }

    private static void change() {
        about("promise 15");
        CellPlane x = read("p+2+0,h+3+1");
        due("change() to upright", x.change(0, 3), 0);
        due("points then", x.count(1), 1);
        due("cells then", x.count(3), 9);
        due("change() to falling", x.change(0, 4), 3);
        due("one point where it touches", x.count(1), 1);
        due("cells then", x.count(3), 13);
        due("change() of a level one", x.change(1, 1), 2);
        due("its b matters now: they do not meet", x.count(1), 0);
        due("change() to its own kind", x.change(1, 1), 1);
        due("the name stays", x.curve(1, 3), 2);
        for (int kind : new int[] {-1, 5, LEAST, MOST}) {
            due("change(0, " + kind + ")", x.change(0, kind), OUTSIDE);
            due("change(2, " + kind + ")", x.change(2, kind), UNKNOWN);
        }
        due("change(-1, 0)", x.change(-1, 0), UNKNOWN);
        due("the kind was not changed", x.curve(0, 0), 4);
    }

    private static void mirror() {
        about("promise 16");
        due("mirror() of no plane", new CellPlane().mirror(), STATE);
        CellPlane x = read("p+3+1,h-2+5,u+4-7,l+0+9");
        int cells = x.count(3);
        due("mirror()", x.mirror(), cells);
        int[][] want = {{6, 10}, {11, 14}, {5, 16}, {9, 18}};
        for (int curve = 0; curve < 4; curve++) {
            due("b of " + curve, x.curve(curve, 1), want[curve][0]);
            due("c of " + curve, x.curve(curve, 2), want[curve][1]);
        }
        CellPlane y = read("l+3+0,h+0-1");
        due("ahead of it", y.point(0, 0), 99666);
        due("mirror()", y.mirror(), 13);
        due("behind it", y.point(0, 0), 100333);
        due("mirror() back", y.mirror(), 13);
        due("as it was", y.point(0, 0), 99666);
    }

    private static void sentence() {
        about("promise 17");
        CellPlane none = new CellPlane();
        due("no plane", none.sentence(0, 0, 0, 0), STATE);
        due("no plane, outside", none.sentence(0, 0, 0, 7), OUTSIDE);
        due("sentences", none.count(8), 0);
        CellPlane x = read("p+0+0,h+0+2");
        int[][] want = {{1, 0, 0, 1100, 1}, {0, 1, 0, 5000, 0}, {1, 1, 1, 5600, 0}, {0, 1, 1, 5600, 1},
            {0, 0, 0, 2200, 1}, {1, 0, 0, 2200, 0}, {1, 0, 1, 2200, 1}, {1, 1, 1, 4400, 0}, {0, 1, 1, 4400, 1},
            {0, 0, 0, 1300, 1}, {1, 0, 0, 1300, 0}, {0, 0, 0, 3100, 1}, {1, 1, 0, 0, 1}, {0, 0, 1, 0, 0},
            {1, 1, 0, 66, 1}, {0, 0, 1, 66, 0}, {1, 1, 1, 1500, 0}, {0, 1, 1, 1600, 0}, {1, 0, 0, 6600, 1}};
        for (int[] s : want) {
            due("sentence(" + s[0] + ", " + s[1] + ", " + s[2] + ", " + s[3] + ")",
                    x.sentence(s[0], s[1], s[2], s[3]), s[4]);
        }
        due("sentences", x.count(8), want.length);
        int[][] strange = {{2, 0, 0, 0}, {-1, 0, 0, 0}, {0, 2, 0, 0}, {0, -1, 0, 0}, {0, 0, 2, 0}, {0, 0, -1, 0},
            {0, 0, 0, -1}, {0, 0, 0, 7}, {0, 0, 0, 70}, {0, 0, 0, 700}, {0, 0, 0, 7000}, {0, 0, 0, 6667},
            {0, 0, 0, 1900}, {0, 0, 0, 10000}, {0, 0, 0, 11111}, {0, 0, 0, LEAST}, {0, 0, 0, MOST}, {LEAST, 0, 0, 0}};
        for (int[] s : strange) {
            due("sentence(" + s[0] + ", " + s[1] + ", " + s[2] + ", " + s[3] + ")",
                    x.sentence(s[0], s[1], s[2], s[3]), OUTSIDE);
        }
        due("sentences then", x.count(8), want.length);
        due("6666 is a form", x.sentence(0, 0, 0, 6666), 1);
        CellPlane y = read("p+0+1,h+0+0");
        due("they never meet", y.sentence(0, 0, 0, 2200), 0);
        CellPlane z = read("u+0+3");
        due("for some x all y are on it", z.sentence(0, 1, 0, 2000), 1);
        due("for all x some y is on it", z.sentence(1, 0, 0, 2000), 0);
    }

    private static void pieces() {
        about("promise 18");
        due("no plane", new CellPlane().pieces(0, 0), STATE);
        due("no plane, outside", new CellPlane().pieces(2, 0), OUTSIDE);
        CellPlane x = read("l+1+0,l-1+0");
        due("off the lines", x.pieces(0, 4400), 4);
        due("off one of the lines", x.pieces(1, 4400), 1);
        due("where they cross", x.pieces(0, 2200), 1);
        due("on the lines", x.pieces(1, 2200), 1);
        due("on one, off the other", x.pieces(0, 2400), 2);
        due("all", x.pieces(0, 0), 1);
        due("none", x.pieces(1, 0), 0);
        due("figures of no curves", x.pieces(0, 66), 1);
        due("figures of no curves, mode 1", x.pieces(1, 66), 0);
        CellPlane y = read("p+0+1,h+0+0");
        due("on curves that never meet", y.pieces(1, 2200), 2);
        due("between them", y.pieces(0, 3100), 1);
        CellPlane z = read("u+0-3,u+0-1,u+0+1,u+0+3");
        due("off upright ones", z.pieces(0, 4444), 5);
        due("on upright ones", z.pieces(1, 2222), 4);
        CellPlane two = read("p+0+0,h+0+2");
        due("where two meet twice", two.pieces(0, 2200), 2);
        due("above the level one, below the curve", two.pieces(0, 3100), 2);
        due("with the edges", two.pieces(0, 5600), 2);
        CellPlane touch = read("p+0+0,h+0+0");
        due("between where they touch", touch.pieces(0, 3100), 2);
        due("with the edges", touch.pieces(0, 5600), 1);
        x = read("l+1+0,l-1+0");
        int[][] strange = {{2, 0}, {-1, 0}, {0, -1}, {0, 7}, {0, 7000}, {0, 10000}, {LEAST, 0}, {0, LEAST}, {0, MOST}};
        for (int[] s : strange) {
            due("pieces(" + s[0] + ", " + s[1] + ")", x.pieces(s[0], s[1]), OUTSIDE);
        }
        due("sentences", x.count(8), 0);
    }

    private static void loose() {
        about("promise 19");
        due("no plane", new CellPlane().loose(), STATE);
        due("one curve", read("p+0+0").loose(), NONE);
        due("two alike", read("h+0+0,p+0+1").loose(), 0);
        due("the last one", read("h+0+0,h+0+1,l+1+0").loose(), 2);
        due("the one in the middle", read("h+0+0,l+1+0,h+0+1").loose(), 1);
        due("the first one", read("p+0+0,h+0+2,l+0+2").loose(), 0);
        CellPlane x = read("h+0+0,h+0+1,l+1+0,p+0-9");
        due("of four", x.loose(), 3);
        due("nothing is changed", x.count(0), 4);
        due("cells stay", x.count(3), read("h+0+0,h+0+1,l+1+0,p+0-9").count(3));
    }

    private static void see() {
        about("promise 20");
        due("no plane", new CellPlane().see(0, 0, 0, 0), UNKNOWN);
        CellPlane x = read("p+0+0");
        int[][] strange = {{-10, 0, 0}, {10, 0, 0}, {0, -10, 0}, {0, 10, 0}, {0, 0, -1}, {0, 0, 3},
            {LEAST, 0, 0}, {0, MOST, 0}, {0, 0, LEAST}};
        for (int[] s : strange) {
            due("see(0, " + s[0] + ", " + s[1] + ", " + s[2] + ")", x.see(0, s[0], s[1], s[2]), OUTSIDE);
            due("see(1, " + s[0] + ", " + s[1] + ", " + s[2] + ")", x.see(1, s[0], s[1], s[2]), UNKNOWN);
        }
        for (int i = 1; i <= 6; i++) {
            due("see() " + i, x.see(0, i % 2 == 0 ? -9 : 9, 9, 2), i);
        }
        due("see() 7", x.see(0, 0, 0, 1), FULL);
        due("see() 7, outside", x.see(0, 0, 0, 3), OUTSIDE);
        due("see() 7, unknown", x.see(1, 0, 0, 1), UNKNOWN);
        due("what is seen", x.count(5), 6);
        due("sorts", x.curve(0, 4), 1);
    }

    private static void forget() {
        about("promise 21");
        due("no plane", new CellPlane().forget(), 0);
        CellPlane x = read("p+0+0");
        due("nothing seen", x.forget(), 0);
        x.see(0, 0, 0, 0);
        x.see(0, 0, 0, 0);
        due("sorts", x.curve(0, 4), 0);
        due("forget()", x.forget(), 2);
        due("what is seen", x.count(5), 0);
        due("sorts then", x.curve(0, 4), 31);
        due("see() again", x.see(0, 0, 0, 1), 1);
    }

    private static void dice() {
        about("promise 22");
        CellPlane x = new CellPlane();
        due("dice(1000)", x.dice(1000), 838);
        for (int sides : new int[] {0, -1, 1001, LEAST, MOST}) {
            due("dice(" + sides + ")", x.dice(sides), OUTSIDE);
        }
        due("dice(1000), second", x.dice(1000), 758);
        due("dice(1), third", x.dice(1), 0);
        due("dice(1000), fourth", x.dice(1000), 515);
        write(x, "p+0+0");
        x.plane();
        due("dice(1000), fifth, with a plane", x.dice(1000), 51);
        x.image();
        due("dice(1000), sixth", x.dice(1000), 627);
        x.restore();
        due("dice(1000), seventh, not the sixth again", x.dice(1000), 10);
    }

    private static void latest() {
        about("promise 23");
        CellPlane x = new CellPlane();
        due("no answer", x.latest(0), UNKNOWN);
        write(x, "h+0+0");
        x.plane();
        int[] answers = {1, 0, 0, 1, 1, 1, 0, 1, 0, 0, 1};
        for (int i = 0; i < answers.length; i++) {
            due("sentence " + i, x.sentence(1, answers[i] == 1 ? 0 : 1, 0, 2000), answers[i]);
            due("the latest", x.latest(0), answers[i]);
            due("the first, or the one 7 ahead", x.latest(Math.min(i, 7)), answers[Math.max(0, i - 7)]);
            due("one more", x.latest(Math.min(i, 7) + 1), UNKNOWN);
        }
        due("latest(-1)", x.latest(-1), UNKNOWN);
        due("latest(8)", x.latest(8), UNKNOWN);
        due("latest(least)", x.latest(LEAST), UNKNOWN);
        due("latest(most)", x.latest(MOST), UNKNOWN);
        x.sentence(0, 0, 0, 7);
        due("a refused one is none", x.latest(0), 1);
        x.pieces(0, 0);
        due("pieces are none", x.latest(1), 0);
        due("answers", x.count(10), 8);
        due("sentences", x.count(8), 11);
    }

    private static void image() {
        about("promise 24");
        CellPlane x = new CellPlane();
        due("no plane", x.image(), STATE);
        due("none kept then", x.restore(), STATE);
        x = read("p+0+0,h+0+2");
        due("image()", x.image(), 2);
        x.take(0);
        due("image() of one", x.image(), 1);
        x.put(3, 0, 0);
        due("the latest is kept", x.restore(), 1);
        due("its curve", x.curve(0, 0), 2);
    }

    private static void restore() {
        about("promise 25");
        due("no plane", new CellPlane().restore(), STATE);
        CellPlane x = read("p+0+0,h+0+2");
        due("none kept", x.restore(), STATE);
        x.see(1, 0, 0, 0);
        x.image();
        x.put(1, 1, 1);
        x.take(0);
        x.move(0, 5, 5);
        x.change(0, 3);
        x.mirror();
        x.forget();
        x.see(0, 0, 0, 0);
        x.see(0, 0, 0, 0);
        x.sentence(0, 0, 0, 0);
        write(x, "ab");
        due("restore()", x.restore(), 2);
        int[][] want = {{0, 9, 9, 1}, {2, 9, 11, 2}};
        for (int curve = 0; curve < 2; curve++) {
            for (int what = 0; what < 4; what++) {
                due("curve(" + curve + ", " + what + ")", x.curve(curve, what), want[curve][what]);
            }
        }
        due("cells", x.count(3), 21);
        due("what is seen", x.count(5), 1);
        due("of which", x.curve(1, 4), 0);
        due("the next name goes on", x.count(9), 4);
        due("sentences go on", x.count(8), 1);
        due("the ring goes on", x.count(10), 1);
        due("the page stays", x.count(6), 2);
        due("put()", x.put(0, 0, 0), 3);
        due("a name that was not given yet", x.curve(2, 3), 4);
        due("restore() again", x.restore(), 2);
        x.blank();
        due("plane() refused", x.plane(), STATE);
        due("it still stands", x.restore(), 2);
        write(x, "u+0+0");
        due("plane()", x.plane(), 1);
        due("there is another plane", x.restore(), STATE);
        due("and it stays", x.curve(0, 0), 3);
        due("image()", x.image(), 1);
        due("of this one", x.restore(), 1);
    }

    private static void count() {
        about("promise 26");
        CellPlane x = read("p+0+0,h+0+2,u+0+0");
        x.see(0, 0, 0, 0);
        x.see(0, 0, 0, 0);
        x.sentence(0, 0, 0, 0);
        x.sentence(0, 0, 0, 0);
        x.sentence(0, 0, 0, 0);
        write(x, "p+0+0");
        int[] want = {3, 3, 7, 31, 12, 2, 5, 1, 3, 4, 3};
        for (int what = 0; what <= 10; what++) {
            due("count(" + what + ")", x.count(what), want[what]);
        }
        for (int what : new int[] {-1, 11, LEAST, MOST}) {
            due("count(" + what + ")", x.count(what), OUTSIDE);
        }
        CellPlane most = read("p+0-9,f+0+9,p+1-8,f+1+8");
        due("stacks are one more than twice the points", most.count(2), 2 * most.count(1) + 1);
    }

    private static long mix(long h, long number) {
        return h * 31 + number;
    }

    /** By the document's words, out of what the other calls tell: each stack by a house made alike. */
    private static long toldDigest(Supplier<CellPlane> house, String page) {
        CellPlane x = house.get();
        int curves = x.count(0);
        int stacks = x.count(2);
        long h = 1433;
        for (int curve = 0; curve < curves; curve++) {
            for (int what = 0; what <= 5; what++) {
                h = mix(h, x.curve(curve, what));
            }
        }
        for (int point = 0; point < x.count(1); point++) {
            for (int what = 0; what <= 3; what++) {
                h = mix(h, x.point(point, what));
            }
        }
        for (int stack = 0; stack < stacks; stack++) {
            h = mixStack(h, house.get(), stack, curves);
        }
        x = house.get();
        h = curves == 0 ? h : mix(h, x.pieces(0, 1000));
        for (int number = 0; number < x.count(10); number++) {
            h = mix(h, x.latest(number));
        }
        for (int at = 0; at < page.length(); at++) {
            h = mix(h, page.charAt(at));
        }
        for (int what = 0; what <= 10; what++) {
            h = mix(h, x.count(what));
        }
        return h;
    }

    private static long mixStack(long start, CellPlane x, int stack, int curves) {
        int cells = x.stack(stack);
        long h = mix(start, cells);
        for (int cell = 0; cell < cells; cell++) {
            for (int curve = 0; curve < curves; curve++) {
                h = mix(h, x.cell(stack, cell, curve));
            }
        }
        return h;
    }

    private static CellPlane written() {
        CellPlane x = new CellPlane();
        write(x, "h+0+0");
        return x;
    }

    private static CellPlane muchToDigest() {
        CellPlane x = read("h+0+0");
        x.put(0, 0, -3);
        x.put(3, 0, 1);
        x.put(4, 2, 5);
        x.see(1, 1, 1, 0);
        x.sentence(0, 0, 0, 2222);
        x.sentence(0, 1, 1, 6666);
        write(x, "z");
        return x;
    }

    private static void digest() {
        about("promise 27");
        CellPlane x = new CellPlane();
        long h = 1433;
        for (int number : new int[] {0, 0, 0, 0, 0, 0, 0, 0, 0, 1, 0}) {
            h = mix(h, number);
        }
        due("digest() of nothing", x.digest(), h);
        due("digest() of a page", written().digest(), toldDigest(PromiseTest::written, "h+0+0"));
        h = 1433;
        // Kind, b, c, name, sorts, ask; three cells; the piece above the curve; counts.
        for (int number : new int[] {2, 9, 9, 1, 31, 0, 3, 2, 1, 0, 1, 1, 0, 1, 3, 1, 0, 0, 1, 0, 2, 0}) {
            h = mix(h, number);
        }
        due("digest() of a level one", read("h+0+0").digest(), h);
        long much = toldDigest(PromiseTest::muchToDigest, "z");
        x = muchToDigest();
        due("digest() of much", x.digest(), much);
        due("digest() changes nothing", x.digest(), much);
    }
}
