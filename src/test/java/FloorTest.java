import java.util.List;

/** Promises 1 to 10: a new object, floor, set, pattern, way, want, cell, count, shade, undo. */
final class FloorTest {
    private static final Due due = new Due("FloorTest");

    public static void main(String[] args) {
        newObject();
        floorBegins();
        floorIsRefused();
        sizeAndLoss();
        patternOfText();
        wayAround();
        wayFromCorners();
        wayByWholePatterns();
        wayIsRefused();
        borderMeets();
        wantOfField();
        cellTells();
        numbersOfBorder();
        countTells();
        accountsAddUp();
        shadeOfPattern();
        undoOfEachChange();
        historyHasFiveStates();
        errorsChangeNothing();
        due.end();
    }

    private static void newObject() {
        MosaicFloor x = new MosaicFloor();
        int[] counts = {6, 4, 16, 1, 0, 1, 0, 0, -4, 0, 0, 0, 0, 0, 0, 20, 2};
        for (int what = 0; what < counts.length; what++) {
            due.is("new count(" + what + ")", x.count(what), counts[what]);
        }
        for (int what = 20; what <= 26; what++) {
            due.is("new count(" + what + ")", x.count(what), 0);
        }
        for (int y = 0; y < 4; y++) {
            for (int column = 0; column < 6; column++) {
                boolean field = y > 0 && y < 3 && column > 0 && column < 5;
                due.is("new cell " + column + ", " + y, x.cell(column, y, 0), field ? 50 : 0);
                due.is("new cell is empty", x.cell(column, y, 1), -4);
            }
        }
        due.is("new stripOf", x.stripOf(0, 0), -1);
        due.is("new undo", x.undo(), -2);
    }

    private static void floorBegins() {
        MosaicFloor x = Due.withPattern("7,8", 1, 3, 12);
        due.is("columns", x.count(0), 3);
        due.is("rows", x.count(1), 12);
        due.is("floor(12, 3)", x.floor(12, 3), 36);
        due.is("floor(12, 12)", x.floor(12, 12), 144);
        due.is("farthest cell", x.cell(11, 11, 0), 7);
        due.is("no cell beyond", x.cell(12, 11, 0), -1);
        due.is("floor(3, 3)", x.floor(3, 3), 9);
        x.strip(100, 9);
        x.cut(0);
        due.is("want", x.want(1, 1, 4), 50);
        due.is("the same floor again", x.floor(3, 3), 9);
        due.is("its field wants 50", x.cell(1, 1, 0), 50);
        due.is("strips stay", x.count(9), 1);
        due.is("tesserae at hand stay", x.count(10), 1);
        due.is("the pattern stays", x.count(3), 2);
        due.is("the way stays", x.count(4), 1);
        due.is("the wants of a smaller floor are gone in a greater one", wantThenGrow(), 50);
    }

    private static int wantThenGrow() {
        MosaicFloor x = new MosaicFloor();
        x.want(4, 2, 9);
        x.floor(3, 3);
        x.floor(12, 12);
        return x.cell(4, 2, 0);
    }

    private static void floorIsRefused() {
        MosaicFloor x = new MosaicFloor();
        int[][] wrong = {{2, 4}, {13, 4}, {6, 2}, {6, 13}, {-1, 4}, {4, 0}, {Integer.MIN_VALUE, 4}, {4, Integer.MAX_VALUE}};
        for (int[] sides : wrong) {
            due.is("floor(" + sides[0] + ", " + sides[1] + ")", x.floor(sides[0], sides[1]), -1);
        }
        x.strip(100, 1);
        x.lay(2, 2);
        due.is("floor with a laid cell", x.floor(5, 5), -2);
        due.is("the wrong argument first", x.floor(2, 5), -1);
        x.lift(2, 2);
        due.is("floor with no laid cell any more", x.floor(5, 5), 25);
        due.is("no change by errors", x.count(13), 4);
    }

    private static void sizeAndLoss() {
        MosaicFloor x = new MosaicFloor();
        due.is("set(0, 60)", x.set(0, 60), 20);
        due.is("set(0, 5)", x.set(0, 5), 60);
        due.is("size", x.count(15), 5);
        due.is("set(0, 4)", x.set(0, 4), -1);
        due.is("set(0, 61)", x.set(0, 61), -1);
        due.is("set(1, 5)", x.set(1, 5), 2);
        due.is("set(1, 0)", x.set(1, 0), 5);
        due.is("loss", x.count(16), 0);
        due.is("set(1, 6)", x.set(1, 6), -1);
        due.is("set(1, -1)", x.set(1, -1), -1);
        due.is("set(2, 5)", x.set(2, 5), -1);
        due.is("set(-1, 5)", x.set(-1, 5), -1);
        x.strip(100, 1);
        x.cut(0);
        x.cut(0);
        due.is("the same size again", x.set(0, 5), 5);
        due.is("nothing at hand", x.count(10), 0);
        due.is("ready of what is left", x.ready(1), 18);
        due.is("thrown away in the old size", x.count(26), 10);
        x.cut(0);
        due.is("another size", x.set(0, 30), 5);
        due.is("thrown away in all", x.count(26), 15);
        x.lay(0, 0);
        due.is("size with a laid cell", x.set(0, 30), -2);
        due.is("a wrong size with a laid cell", x.set(0, 3), -1);
        due.is("loss with a laid cell", x.set(1, 3), 0);
        x.cut(0);
        due.is("loss keeps what is at hand", x.set(1, 4), 3);
        due.is("at hand", x.count(10), 1);
    }

    private static void patternOfText() {
        MosaicFloor x = new MosaicFloor();
        due.is("pattern of no text", x.pattern(), -2);
        Due.typeText(x, "1,22,03,4,5,6,7,99");
        due.is("eight shades", x.pattern(), 8);
        due.is("its length", x.count(3), 8);
        due.is("its second", x.shade(1), 22);
        due.is("its third", x.shade(2), 3);
        due.is("its last", x.shade(7), 99);
        due.is("the text stays", x.count(14), 18);
        Due.typeText(x, "7,");
        due.is("pattern with a fault", x.pattern(), -2);
        due.is("the old one stays", x.count(3), 8);
        Due.typeText(x, "5");
        due.is("one shade", x.pattern(), 1);
        due.is("no more shades", x.shade(1), -4);
        due.is("the border wants it", x.cell(5, 3, 0), 5);
        x.strip(100, 1);
        x.lay(0, 0);
        due.is("pattern with a laid cell", x.pattern(), -2);
        x.lift(0, 0);
        due.is("the text is still there", x.pattern(), 1);
    }

    private static void wayAround() {
        MosaicFloor x = Due.withPattern("1,2,3", 0, 4, 3);
        due.same("around", Due.border(x), List.of(1, 2, 3, 1, 2, 3, 1, 2, 3, 1));
    }

    private static void wayFromCorners() {
        MosaicFloor x = Due.withPattern("1,2,3,4", 1, 6, 5);
        due.same("from the corners", Due.border(x),
                List.of(1, 2, 3, 3, 2, 1, 2, 3, 2, 1, 2, 3, 3, 2, 1, 2, 3, 2));
        x = Due.withPattern("1,2", 1, 12, 3);
        due.same("from the corners, again and again", Due.border(x).subList(0, 14),
                List.of(1, 2, 1, 2, 1, 2, 2, 1, 2, 1, 2, 1, 2, 1));
    }

    private static void wayByWholePatterns() {
        MosaicFloor x = Due.withPattern("1,2,3", 2, 6, 4);
        due.same("whole patterns", Due.border(x), List.of(1, 2, 3, 1, 1, 1, 2, 3, 1, 2, 3, 1, 1, 1, 2, 3));
        x = Due.withPattern("1,2,3,4", 2, 5, 4);
        due.same("a side with none", Due.border(x), List.of(1, 2, 3, 4, 1, 1, 1, 1, 2, 3, 4, 1, 1, 1));
    }

    private static void wayIsRefused() {
        MosaicFloor x = new MosaicFloor();
        due.is("way(2)", x.way(2), 0);
        due.is("way(1)", x.way(1), 2);
        due.is("way(3)", x.way(3), -1);
        due.is("way(-1)", x.way(-1), -1);
        due.is("the way", x.count(4), 1);
        x.strip(20, 0);
        x.lay(0, 0);
        due.is("way with a laid cell", x.way(1), -2);
        due.is("a wrong way with a laid cell", x.way(3), -1);
    }

    private static void borderMeets() {
        due.is("two shades around an even border", Due.withPattern("1,2", 0, 4, 4).count(5), 1);
        due.is("the last cell and the first", Due.withPattern("1,2,3", 0, 4, 4).count(5), 1);
        due.is("three shades around 10 cells", Due.withPattern("1,2,3", 0, 4, 3).count(5), 0);
        due.is("the same shade twice", Due.withPattern("1,1,2,3", 0, 5, 5).count(5), 0);
        due.is("one shade of the length 3", Due.withPattern("4,04,4", 0, 4, 3).count(5), 1);
        due.is("from corners, even sides", Due.withPattern("1,2,3", 1, 4, 3).count(5), 0);
        due.is("from corners, odd sides", Due.withPattern("1,2,3", 1, 5, 3).count(5), 1);
        due.is("whole patterns", Due.withPattern("1,2,3", 2, 7, 4).count(5), 1);
        due.is("one cell over", Due.withPattern("1,2,3", 2, 7, 5).count(5), 0);
        due.is("two cells over", Due.withPattern("1,2,3", 2, 7, 6).count(5), 0);
        due.is("two shades, odd sides", Due.withPattern("1,2", 2, 4, 4).count(5), 0);
        due.is("longer than a side", Due.withPattern("1,2,3", 2, 3, 3).count(5), 0);
    }

    private static void wantOfField() {
        MosaicFloor x = new MosaicFloor();
        due.is("want(1, 1, 99)", x.want(1, 1, 99), 50);
        due.is("want(1, 1, 0)", x.want(1, 1, 0), 99);
        due.is("its neighbour", x.cell(2, 1, 0), 50);
        due.is("the last one of the field", x.want(4, 2, 7), 50);
        due.is("it wants", x.cell(4, 2, 0), 7);
        int[][] wrong = {{6, 1, 1}, {-1, 1, 1}, {1, 4, 1}, {1, -1, 1}, {1, 1, 100}, {1, 1, -1}, {0, 0, 100}};
        for (int[] w : wrong) {
            due.is("want(" + w[0] + ", " + w[1] + ", " + w[2] + ")", x.want(w[0], w[1], w[2]), -1);
        }
        int[][] border = {{0, 0}, {3, 0}, {5, 2}, {2, 3}, {0, 1}};
        for (int[] b : border) {
            due.is("want(" + b[0] + ", " + b[1] + ", 1)", x.want(b[0], b[1], 1), -2);
        }
        x.strip(100, 1);
        x.lay(1, 1);
        due.is("want of a laid cell", x.want(1, 1, 5), -2);
        due.is("want of another one", x.want(2, 1, 5), 50);
    }

    private static void cellTells() {
        MosaicFloor x = new MosaicFloor();
        x.strip(100, 60);
        x.lay(1, 1);
        x.lay(0, 0);
        due.is("wanted", x.cell(1, 1, 0), 50);
        due.is("laid", x.cell(1, 1, 1), 60);
        due.is("difference", x.cell(1, 1, 2), 10);
        due.is("of the field", x.cell(1, 1, 3), -4);
        due.is("difference in the border", x.cell(0, 0, 2), 60);
        due.is("laid in the border", x.cell(0, 0, 1), 60);
        due.is("wanted in the border", x.cell(0, 0, 0), 0);
        due.is("empty: laid", x.cell(2, 2, 1), -4);
        due.is("empty: difference", x.cell(2, 2, 2), -4);
        due.is("empty: wanted", x.cell(2, 2, 0), 50);
        int[][] wrong = {{6, 0, 0}, {-1, 0, 0}, {0, 4, 0}, {0, -1, 0}, {0, 0, 4}, {0, 0, -1}};
        for (int[] w : wrong) {
            due.is("cell(" + w[0] + ", " + w[1] + ", " + w[2] + ")", x.cell(w[0], w[1], w[2]), -1);
        }
    }

    private static void numbersOfBorder() {
        MosaicFloor x = new MosaicFloor();
        x.floor(4, 3);
        int[][] numbers = {{0, 1, 2, 3}, {9, -4, -4, 4}, {8, 7, 6, 5}};
        for (int y = 0; y < 3; y++) {
            for (int column = 0; column < 4; column++) {
                due.is("number of " + column + ", " + y, x.cell(column, y, 3), numbers[y][column]);
            }
        }
        x.floor(12, 5);
        due.is("number of the last cell", x.cell(0, 1, 3), 29);
        due.is("cells of the border", x.count(2), 30);
    }

    private static void countTells() {
        MosaicFloor x = new MosaicFloor();
        Due.typeText(x, "10,20");
        x.pattern();
        x.floor(5, 3);
        x.way(1);
        x.strip(200, 12);
        x.flaw(0, 0);
        x.set(0, 10);
        x.set(1, 1);
        x.lay(0, 0);
        x.lay(1, 0);
        x.lay(1, 1);
        x.lift(1, 1);
        int[] counts = {5, 3, 12, 2, 1, 1, 2, 10, 8, 1, 1, 1, 1, 5, 5, 10, 1};
        for (int what = 0; what < counts.length; what++) {
            due.is("count(" + what + ")", x.count(what), counts[what]);
        }
        int[] accounts = {200, 156, 10, 20, 10, 4, 0};
        for (int what = 0; what < accounts.length; what++) {
            due.is("count(" + (20 + what) + ")", x.count(20 + what), accounts[what]);
        }
        int[] wrong = {-1, 17, 18, 19, 27, Integer.MAX_VALUE, Integer.MIN_VALUE};
        for (int what : wrong) {
            due.is("count(" + what + ")", x.count(what), -1);
        }
        MosaicFloor exact = new MosaicFloor();
        exact.strip(100, 50);
        exact.lay(1, 1);
        due.is("the greatest difference may be 0", exact.count(8), 0);
        exact.lift(1, 1);
        due.is("no cell is laid any more", exact.count(8), -4);
        exact.lay(1, 1);
        exact.lay(0, 2);
        due.is("the greatest difference of the first column", exact.count(8), 50);
    }

    private static void accountsAddUp() {
        MosaicFloor x = new MosaicFloor();
        x.strip(107, 3);
        x.strip(41, 90);
        x.flaw(0, 30);
        x.flaw(1, 1);
        x.layAll();
        x.lift(0, 0);
        x.lift(1, 0);
        x.lift(2, 0);
        addsUp(x, 148);
        x.lift(3, 0);
        x.lift(4, 0);
        x.set(0, 7);
        addsUp(x, 148);
        x.set(1, 5);
        x.layAll();
        addsUp(x, 148);
    }

    private static void addsUp(MosaicFloor x, int length) {
        int sum = 0;
        for (int account = 1; account <= 6; account++) {
            sum += x.count(20 + account);
        }
        due.is("the length of all strips", x.count(20), length);
        due.is("the sum of the other accounts", sum, length);
    }

    private static void shadeOfPattern() {
        MosaicFloor x = Due.withPattern("3,1", 0, 6, 4);
        due.is("shade(0)", x.shade(0), 3);
        due.is("shade(1)", x.shade(1), 1);
        due.is("shade(2)", x.shade(2), -4);
        due.is("shade(-1)", x.shade(-1), -1);
        due.is("shade(8)", x.shade(8), -4);
        due.is("shade of the greatest index", x.shade(Integer.MAX_VALUE), -4);
        due.is("shade of the least index", x.shade(Integer.MIN_VALUE), -1);
    }

    private static MosaicFloor readyToWork() {
        MosaicFloor x = Due.withPattern("10,20", 1, 3, 3);
        x.strip(200, 12);
        x.strip(60, 40);
        x.cut(0);
        x.flaw(0, 30);
        return x;
    }

    /** Each kind of change is undone whole, but for the text. */
    private static void undoOfEachChange() {
        for (int change = 0; change < 13; change++) {
            MosaicFloor x = readyToWork();
            if (change == 10) {
                x.layAll();
            }
            // The state before this one is another one, so that a change that is not recorded is seen.
            x.set(1, 3);
            x.set(1, 2);
            List<Integer> before = Due.look(x);
            Due.typeText(x, "1,2,3");
            due.is("change " + change + " is no error", doChange(x, change) >= 0 ? 1 : 0, 1);
            due.is("undo of change " + change, x.undo(), 4);
            due.same("the floor without change " + change, Due.look(x), before);
            due.is("the text stays", x.count(14), 5);
        }
    }

    private static int doChange(MosaicFloor x, int change) {
        switch (change) {
            case 0: return x.floor(5, 4);
            case 1: return x.set(0, 10);
            case 2: return x.set(1, 5);
            case 3: return x.pattern();
            case 4: return x.way(2);
            case 5: return x.want(1, 1, 3);
            case 6: return x.strip(100, 7);
            case 7: return x.flaw(1, 59);
            case 8: return x.cut(0);
            case 9: return x.layAll();
            case 10: return x.lift(1, 1);
            case 11: return x.lay(1, 1);
            default: return x.floor(3, 3);
        }
    }

    private static void historyHasFiveStates() {
        MosaicFloor x = new MosaicFloor();
        due.is("undo without a change", x.undo(), -2);
        for (int i = 0; i < 7; i++) {
            x.strip(100 + i, i);
            due.is("states behind " + (i + 1) + " changes", x.count(13), Math.min(i + 1, 5));
        }
        for (int left = 4; left >= 0; left--) {
            due.is("undo", x.undo(), left);
            due.is("strips", x.count(9), left + 2);
            due.is("the last strip", x.stripOf(left + 1, 0), 101 + left);
        }
        due.is("undo of the sixth", x.undo(), -2);
        due.is("a new strip", x.strip(50, 9), 2);
        due.is("undo again", x.undo(), 0);
        x.layAll();
        due.is("way, the same", x.way(1), -2);
        due.is("layAll of nothing", x.layAll(), 0);
        due.is("set, the same", x.set(1, 2), 2);
        due.is("the changes are in the history, the error is not", x.count(13), 3);
        due.is("undo is none", x.undo(), 2);
        due.is("nor is a text", x.type('1') + x.clearText() + x.count(13), 4);
    }

    /** An error changes nothing, and nor does a question. */
    private static void errorsChangeNothing() {
        MosaicFloor x = readyToWork();
        x.undo();
        x.undo();
        x.lay(1, 1);
        List<Integer> before = Due.look(x);
        int states = x.count(13);
        int[] errors = {
            x.floor(4, 4), x.floor(2, 4), x.set(0, 10), x.set(1, 6), x.set(3, 3), x.pattern(), x.way(0), x.way(5),
            x.want(1, 1, 1), x.want(0, 0, 1), x.want(1, 1, 100), x.strip(10, 1), x.flaw(1, 1), x.flaw(5, 5),
            x.cut(2), x.lay(1, 1), x.lay(9, 9), x.lift(0, 0), x.lift(-1, 0), x.nearest(1, 1)};
        for (int i = 0; i < errors.length; i++) {
            due.is("call " + i + " is an error", errors[i] < 0 ? 1 : 0, 1);
        }
        x.ifLaid();
        x.nearest(0, 0);
        x.ready(12);
        x.lacks(10);
        x.stripFor(20);
        x.fault();
        due.same("the floor", Due.look(x), before);
        due.is("less than five states, so that one more is seen", states, 4);
        due.is("states", x.count(13), states);
    }
}
