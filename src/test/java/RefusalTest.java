import java.util.ArrayList;
import java.util.List;

/** Refusals: each one where it is due, the first of several, and that a refused call changes nothing. */
public final class RefusalTest extends Checks {
    public static void main(String[] args) {
        houses();
        letter();
        plane();
        curveAndAs();
        pointStackCell();
        put();
        take();
        moveAndChange();
        mirror();
        sentenceAndPieces();
        loose();
        see();
        dice();
        latest();
        image();
        restore();
        count();
        readingChangesNothing();
        finish();
    }

    /** Houses to which calls are refused. */
    private enum House {
        /** Nothing was called yet. */
        NEW,
        /** No plane; the page is full. */
        WRITTEN,
        /** One curve, and a plane on the page. */
        ONE,
        /** Three curves, some of all else; an image from ahead of the latest changes. */
        THREE,
        /** As many curves, sights, letters and answers as there can be; an image, too. */
        FILLED,
        /** An image was kept, but of another plane. */
        LATER;

        CellPlane make() {
            CellPlane x = new CellPlane();
            switch (this) {
                case NEW:
                    break;
                case WRITTEN:
                    write(x, "p+0+0,l+1+1,h+2+2,u+3+3,");
                    break;
                case ONE:
                    readAlso(x, "f+2-3");
                    write(x, "u+1+1,h+4+4");
                    break;
                case THREE:
                    makeThree(x);
                    break;
                case FILLED:
                    makeFilled(x);
                    break;
                default:
                    makeThree(x);
                    x.blank();
                    readAlso(x, "l-1+2,p+3-4");
                    x.see(1, 1, 0, 1);
            }
            return x;
        }

        int curves() {
            return new int[] {0, 0, 1, 3, 4, 2}[ordinal()];
        }
    }

    private static void makeThree(CellPlane x) {
        readAlso(x, "p+1-2,h+5+1,u+2+3");
        x.dice(6);
        x.see(1, 2, 1, 1);
        x.sentence(0, 0, 0, 2200);
        x.sentence(1, 1, 0, 2200);
        x.image();
        x.move(0, -1, -3);
        x.take(1);
        x.put(4, 2, 6);
        x.see(2, 1, 1, 2);
        write(x, "l+0");
    }

    private static void makeFilled(CellPlane x) {
        makeThree(x);
        x.put(1, 1, 0);
        x.image();
        x.change(2, 0);
        x.mirror();
        x.forget();
        // Each of these leaves some sorts and not all, so that another one in its place would be told.
        int[][] sights = {{0, 2, -1, 0}, {0, 0, -3, 1}, {1, 1, -4, 0}, {2, 2, 3, 2}, {3, 1, -1, 2}, {3, -1, 0, 2}};
        for (int[] s : sights) {
            x.see(s[0], s[1], s[2], s[3]);
        }
        for (int i = 0; i < 9; i++) {
            x.sentence(1, i % 3 == 0 ? 1 : 0, 0, 2000);
        }
        write(x, "+0,p+0+0,p+0+0,p+0+0x");
    }

    private static void houses() {
        about("the house that is filled");
        CellPlane x = House.FILLED.make();
        due("curves", x.count(0), 4);
        due("sights", x.count(5), 6);
        due("letters", x.count(6), 24);
        due("answers", x.count(10), 8);
        int[] sorts = {4 + 16, 2 + 8 + 16, 1 + 4 + 8, 1};
        for (int curve = 0; curve < 4; curve++) {
            due("sorts of " + curve, x.curve(curve, 4), sorts[curve]);
        }
    }

    /** All that can be told of a house, and of how it goes on. */
    private static List<Long> look(CellPlane x) {
        List<Long> all = new ArrayList<>();
        all.add(x.digest());
        for (int what = 0; what <= 10; what++) {
            all.add((long) x.count(what));
        }
        for (int number = 0; number <= 8; number++) {
            all.add((long) x.latest(number));
        }
        all.add((long) x.fault());
        all.add((long) x.dice(1000));
        all.add((long) x.dice(997));
        sightsOfAll(x, all);
        all.add((long) x.restore());
        all.add(x.digest());
        sightsOfAll(x, all);
        all.add((long) x.plane());
        all.add(x.digest());
        all.add((long) x.letter('p'));
        all.add((long) x.dice(1000));
        return all;
    }

    /** What is seen of numbers that no curve has comes out when there are four curves again. */
    private static void sightsOfAll(CellPlane x, List<Long> all) {
        for (int more = 0; more < 4; more++) {
            all.add((long) x.put(more, 1, 2));
        }
        for (int curve = 0; curve < 4; curve++) {
            all.add((long) x.curve(curve, 3));
            all.add((long) x.curve(curve, 4));
            all.add((long) x.curve(curve, 5));
        }
    }

    private static void refused(House house, int want, String name, int... arguments) {
        List<Long> without = look(house.make());
        CellPlane x = house.make();
        for (int again = 0; again < 3; again++) {
            due(told(name, arguments) + " in " + house, call(x, name, arguments), want);
        }
        List<Long> with = look(x);
        due(told(name, arguments) + " in " + house + " changes nothing", with.equals(without) ? 1 : 0, 1);
    }

    private static void refusedInAll(int want, String name, int... arguments) {
        for (House house : House.values()) {
            refused(house, want, name, arguments);
        }
    }

    private static int[] numbersBeyond(int first, int last) {
        return new int[] {first - 1, last + 1, LEAST, MOST};
    }

    private static void letter() {
        about("2 letter: OUTSIDE changes nothing, and is told ahead of FULL");
        for (int code : numbersBeyond(1, 126)) {
            refusedInAll(OUTSIDE, "letter", code);
        }
        about("2 letter: FULL changes nothing");
        for (int code : new int[] {1, 'p', 126}) {
            refused(House.WRITTEN, FULL, "letter", code);
            refused(House.FILLED, FULL, "letter", code);
        }
    }

    private static void plane() {
        about("5 plane: STATE: it is none, and nothing is changed");
        for (House house : new House[] {House.NEW, House.WRITTEN, House.THREE, House.FILLED, House.LATER}) {
            refused(house, STATE, "plane");
        }
        String[] pages = {"", "p", "p+", "p+0", "p+0+", "p+0+0,", "p+0+0,l", "p+0+0,l+0+0,", "x+0+0", "p+0+00",
            "p+0+0,,", ",p+0+0", "p+0+0l+0+0", "p+0+0,l+0+0,h+0+0,u+0+0,", "p+0+0,l+0+0,h+0+0,u+0+0p", "P+0+0",
            "p 0 0", "p00", "p+a+0", "p+0+a", "p*0+0", "p+0*0", "p+0+0;l+0+0", "p+10+0", " p+0+0", "p+0+0 "};
        for (String page : pages) {
            dueNoPlane(new CellPlane(), page);
            dueNoPlane(read("h+0+3,u+0-2"), page);
        }
    }

    private static void dueNoPlane(CellPlane x, String page) {
        write(x, page);
        x.image();
        long digest = x.digest();
        due("plane() of " + page, x.plane(), STATE);
        due("digest() behind plane() of " + page, x.digest(), digest);
        due("letters behind plane() of " + page, x.count(6), page.length());
        int curves = x.count(0);
        due("the image behind plane() of " + page, x.restore(), curves == 0 ? STATE : curves);
    }

    private static void curveAndAs() {
        for (House house : House.values()) {
            for (int curve : numbersBeyond(0, house.curves() - 1)) {
                about("6 curve: UNKNOWN changes nothing, and is told ahead of OUTSIDE");
                refused(house, UNKNOWN, "curve", curve, 0);
                refused(house, UNKNOWN, "curve", curve, 5);
                refused(house, UNKNOWN, "curve", curve, 6);
                refused(house, UNKNOWN, "curve", curve, -1);
                about("7 as: UNKNOWN changes nothing, and is told ahead of OUTSIDE");
                refused(house, UNKNOWN, "as", curve, 0);
                refused(house, UNKNOWN, "as", curve, 5);
                refused(house, UNKNOWN, "as", curve, -1);
            }
        }
        for (House house : new House[] {House.ONE, House.THREE, House.FILLED, House.LATER}) {
            about("6 curve: OUTSIDE changes nothing");
            for (int what : numbersBeyond(0, 5)) {
                refused(house, OUTSIDE, "curve", house.curves() - 1, what);
            }
            about("7 as: OUTSIDE changes nothing");
            for (int kind : numbersBeyond(0, 4)) {
                refused(house, OUTSIDE, "as", house.curves() - 1, kind);
            }
        }
    }

    private static void pointStackCell() {
        for (House house : House.values()) {
            CellPlane x = house.make();
            int points = x.count(1);
            int stacks = x.count(2);
            int cells = Math.max(0, x.stack(stacks - 1));
            about("8 point: UNKNOWN changes nothing, and is told ahead of OUTSIDE");
            for (int point : numbersBeyond(0, points - 1)) {
                refused(house, UNKNOWN, "point", point, 0);
                refused(house, UNKNOWN, "point", point, 4);
                refused(house, UNKNOWN, "point", point, -1);
            }
            about("8 point: OUTSIDE changes nothing");
            for (int what : numbersBeyond(0, 3)) {
                refused(house, points == 0 ? UNKNOWN : OUTSIDE, "point", points - 1, what);
            }
            for (int stack : numbersBeyond(0, stacks - 1)) {
                about("9 stack: UNKNOWN changes nothing");
                refused(house, UNKNOWN, "stack", stack);
                about("10 cell: UNKNOWN: stack changes nothing");
                refused(house, UNKNOWN, "cell", stack, 0, 0);
                about("11 neighbours: UNKNOWN: stack changes nothing");
                refused(house, UNKNOWN, "neighbours", stack, 0);
            }
            for (int cell : numbersBeyond(0, cells - 1)) {
                about("10 cell: UNKNOWN: cell changes nothing");
                refused(house, UNKNOWN, "cell", stacks - 1, cell, 0);
                about("11 neighbours: UNKNOWN: cell changes nothing");
                refused(house, UNKNOWN, "neighbours", stacks - 1, cell);
            }
            about("10 cell: UNKNOWN: curve changes nothing");
            for (int curve : numbersBeyond(0, house.curves() - 1)) {
                refused(house, UNKNOWN, "cell", stacks - 1, cells - 1, curve);
                refused(house, UNKNOWN, "cell", stacks, cells, curve);
            }
        }
    }

    private static void put() {
        int[][] outside = {{-1, 0, 0}, {5, 0, 0}, {0, -10, 0}, {0, 10, 0}, {0, 0, -10}, {0, 0, 10}, {5, 10, 10},
            {LEAST, 0, 0}, {MOST, 0, 0}, {0, LEAST, 0}, {0, MOST, 0}, {0, 0, LEAST}, {0, 0, MOST}};
        about("12 put: OUTSIDE changes nothing, and is told ahead of STATE and of FULL");
        for (int[] s : outside) {
            refusedInAll(OUTSIDE, "put", s);
        }
        about("12 put: STATE: no PLANE");
        refused(House.NEW, STATE, "put", 0, 0, 0);
        refused(House.WRITTEN, STATE, "put", 4, 9, -9);
        about("12 put: FULL: there are four");
        refused(House.FILLED, FULL, "put", 0, 0, 0);
        refused(House.FILLED, FULL, "put", 3, -9, 9);
    }

    private static void take() {
        about("13 take: UNKNOWN changes nothing, and is told ahead of STATE");
        for (House house : House.values()) {
            for (int curve : numbersBeyond(0, house.curves() - 1)) {
                refused(house, UNKNOWN, "take", curve);
            }
        }
        about("13 take: STATE: it is the only one");
        refused(House.ONE, STATE, "take", 0);
    }

    private static void moveAndChange() {
        int[][] outside = {{-10, 0}, {10, 0}, {0, -10}, {0, 10}, {LEAST, 0}, {MOST, 0}, {0, LEAST}, {0, MOST}};
        for (House house : House.values()) {
            int last = house.curves() - 1;
            for (int curve : numbersBeyond(0, last)) {
                about("14 move: UNKNOWN changes nothing, and is told ahead of OUTSIDE");
                refused(house, UNKNOWN, "move", curve, 0, 0);
                refused(house, UNKNOWN, "move", curve, 10, 0);
                refused(house, UNKNOWN, "move", curve, 0, -10);
                about("15 change: UNKNOWN changes nothing, and is told ahead of OUTSIDE");
                refused(house, UNKNOWN, "change", curve, 0);
                refused(house, UNKNOWN, "change", curve, 5);
                refused(house, UNKNOWN, "change", curve, -1);
            }
            about("14 move: OUTSIDE changes nothing");
            for (int[] s : outside) {
                refused(house, last < 0 ? UNKNOWN : OUTSIDE, "move", last, s[0], s[1]);
            }
            about("15 change: OUTSIDE changes nothing");
            for (int kind : numbersBeyond(0, 4)) {
                refused(house, last < 0 ? UNKNOWN : OUTSIDE, "change", last, kind);
            }
        }
    }

    private static void mirror() {
        about("16 mirror: STATE: no PLANE");
        refused(House.NEW, STATE, "mirror");
        refused(House.WRITTEN, STATE, "mirror");
    }

    private static void sentenceAndPieces() {
        int[][] outside = {{-1, 0, 0, 0}, {2, 0, 0, 0}, {0, -1, 0, 0}, {0, 2, 0, 0}, {0, 0, -1, 0}, {0, 0, 2, 0},
            {0, 0, 0, -1}, {0, 0, 0, 7}, {0, 0, 0, 70}, {0, 0, 0, 700}, {0, 0, 0, 7000}, {0, 0, 0, 10000},
            {0, 0, 0, LEAST}, {0, 0, 0, MOST}, {LEAST, LEAST, LEAST, LEAST}, {MOST, MOST, MOST, MOST}};
        for (int[] s : outside) {
            about("17 sentence: OUTSIDE changes nothing, and is told ahead of STATE");
            refusedInAll(OUTSIDE, "sentence", s);
            if (s[2] != 0 || s[3] != 0) {
                about("18 pieces: OUTSIDE changes nothing, and is told ahead of STATE");
                refusedInAll(OUTSIDE, "pieces", s[2], s[3]);
            }
        }
        for (House house : new House[] {House.NEW, House.WRITTEN}) {
            about("17 sentence: STATE: no PLANE");
            refused(house, STATE, "sentence", 0, 0, 0, 0);
            refused(house, STATE, "sentence", 1, 1, 1, 6666);
            about("18 pieces: STATE: no PLANE");
            refused(house, STATE, "pieces", 0, 0);
            refused(house, STATE, "pieces", 1, 6666);
        }
    }

    private static void loose() {
        about("19 loose: STATE: no PLANE");
        refused(House.NEW, STATE, "loose");
        refused(House.WRITTEN, STATE, "loose");
    }

    private static void see() {
        int[][] outside = {{-10, 0, 0}, {10, 0, 0}, {0, -10, 0}, {0, 10, 0}, {0, 0, -1}, {0, 0, 3}, {10, 10, 3},
            {LEAST, 0, 0}, {MOST, 0, 0}, {0, LEAST, 0}, {0, MOST, 0}, {0, 0, LEAST}, {0, 0, MOST}};
        for (House house : House.values()) {
            int last = house.curves() - 1;
            about("20 see: UNKNOWN changes nothing, and is told ahead of OUTSIDE and of FULL");
            for (int curve : numbersBeyond(0, last)) {
                refused(house, UNKNOWN, "see", curve, 0, 0, 0);
                refused(house, UNKNOWN, "see", curve, 10, 0, 0);
                refused(house, UNKNOWN, "see", curve, 0, -10, 3);
            }
            about("20 see: OUTSIDE changes nothing, and is told ahead of FULL");
            for (int[] s : outside) {
                refused(house, last < 0 ? UNKNOWN : OUTSIDE, "see", last, s[0], s[1], s[2]);
            }
        }
        about("20 see: FULL changes nothing");
        refused(House.FILLED, FULL, "see", 0, 0, 0, 0);
        refused(House.FILLED, FULL, "see", 3, -9, 9, 2);
    }

    private static void dice() {
        about("22 dice: OUTSIDE changes nothing, nor the SEED");
        for (int sides : numbersBeyond(1, 1000)) {
            refusedInAll(OUTSIDE, "dice", sides);
        }
    }

    private static void latest() {
        about("23 latest: UNKNOWN changes nothing");
        for (House house : House.values()) {
            for (int number : numbersBeyond(0, house.make().count(10) - 1)) {
                refused(house, UNKNOWN, "latest", number);
            }
        }
    }

    private static void image() {
        about("24 image: STATE: no PLANE");
        refused(House.NEW, STATE, "image");
        refused(House.WRITTEN, STATE, "image");
    }

    private static void restore() {
        about("25 restore: STATE: none was kept");
        refused(House.NEW, STATE, "restore");
        refused(House.WRITTEN, STATE, "restore");
        refused(House.ONE, STATE, "restore");
        about("25 restore: STATE: there is another PLANE since");
        refused(House.LATER, STATE, "restore");
    }

    private static void count() {
        about("26 count: OUTSIDE changes nothing");
        for (int what : numbersBeyond(0, 10)) {
            refusedInAll(OUTSIDE, "count", what);
        }
    }

    /** Calls that only tell: they leave all as it was where they answer, too. */
    private static void readingChangesNothing() {
        about("what only tells changes nothing");
        String[][] calls = {{"fault"}, {"curve", "0", "5"}, {"curve", "0", "4"}, {"as", "0", "1"}, {"point", "0", "0"},
            {"stack", "0"}, {"cell", "0", "0", "0"}, {"neighbours", "0", "0"}, {"pieces", "1", "2222"}, {"loose"},
            {"latest", "0"}, {"count", "3"}, {"digest"}};
        for (House house : House.values()) {
            List<Long> without = look(house.make());
            for (String[] one : calls) {
                int[] arguments = new int[one.length - 1];
                for (int i = 0; i < arguments.length; i++) {
                    arguments[i] = Integer.parseInt(one[i + 1]);
                }
                CellPlane x = house.make();
                call(x, one[0], arguments);
                due(told(one[0], arguments) + " in " + house + " changes nothing",
                        look(x).equals(without) ? 1 : 0, 1);
            }
        }
    }
}
