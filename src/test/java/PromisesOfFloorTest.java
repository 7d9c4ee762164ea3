import java.util.List;

/** The sentences of the promises 1 to 10 that name a boundary, each with a test of its own. */
final class PromisesOfFloorTest {
    private static final Due due = new Due("PromisesOfFloorTest");

    public static void main(String[] args) {
        newFloorIsEmpty();
        floorsAreApart();
        floorBeginsAnew();
        stoneAndPatternStay();
        floorIsRefused();
        settingsHaveLimits();
        setTellsThePreviousValue();
        setIsRefused();
        patternIsTakenOfTheText();
        patternIsRefused();
        wayTellsThePreviousWay();
        wayIsRefused();
        wantTellsThePreviousShade();
        wantIsRefused();
        cellTells();
        cellIsRefused();
        cellFindsNothing();
        countsOfTheFloor();
        countsOfWhatIsLaid();
        countsOfTheStone();
        countsOfTheRest();
        countIsRefused();
        countFindsNoGreatest();
        shadeTells();
        shadeIsRefused();
        undoTellsTheStatesLeft();
        undoIsRefused();
        due.end();
    }

    // ---- promise 1

    private static void newFloorIsEmpty() {
        due.by("Promise 1: Creates an empty floor of 6 columns and 4 rows, without strips.");
        MosaicFloor x = new MosaicFloor();
        int[] counts = {6, 4, 16, 1, 0, 1, 0, 0, -4, 0, 0, 0, 0, 0, 0, 20, 2};
        for (int what = 0; what < counts.length; what++) {
            due.is("count(" + what + ")", x.count(what), counts[what]);
        }
        due.same("accounts", Due.accounts(x), List.of(0, 0, 0, 0, 0, 0, 0));
        for (int y = 0; y < 4; y++) {
            for (int column = 0; column < 6; column++) {
                due.is("laid at " + column + ", " + y, x.cell(column, y, 1), -4);
                due.is("nearest of " + column + ", " + y, x.nearest(column, y), -4);
            }
        }
        due.is("no column 6", x.cell(6, 0, 0), -1);
        due.is("no row 4", x.cell(0, 4, 0), -1);
        due.is("no strip", x.stripOf(0, 0), -1);
        for (int shade = 0; shade <= 99; shade++) {
            due.is("ready(" + shade + ")", x.ready(shade), 0);
        }
        due.is("nothing to undo", x.undo(), -2);
        due.is("the first strip", x.strip(20, 0), 0);
    }

    private static void floorsAreApart() {
        due.by("Promise 1: Creates an empty floor");
        MosaicFloor x = new MosaicFloor();
        MosaicFloor y = new MosaicFloor();
        List<Integer> before = Due.look(y);
        Due.typeText(x, "1,2");
        x.pattern();
        x.way(1);
        x.floor(5, 5);
        x.want(1, 1, 9);
        x.strip(100, 9);
        x.set(0, 10);
        x.layAll();
        x.lift(0, 0);
        due.same("another floor", Due.look(y), before);
        due.is("its text", y.count(14), 0);
        due.is("its history", y.count(13), 0);
        due.same("a floor made behind it", Due.look(new MosaicFloor()), before);
    }

    // ---- promise 2

    private static void floorBeginsAnew() {
        due.by("Promise 2: Begins a floor, also one of the same size; all cells of its field want the shade 50.");
        int[][] sides = {{6, 4}, {3, 3}, {12, 12}, {12, 3}, {3, 12}};
        for (int[] side : sides) {
            MosaicFloor x = new MosaicFloor();
            wantEverywhere(x, 7);
            x.floor(side[0], side[1]);
            for (int y = 1; y < side[1] - 1; y++) {
                for (int column = 1; column < side[0] - 1; column++) {
                    due.is("want at " + column + ", " + y, x.cell(column, y, 0), 50);
                }
            }
        }
        MosaicFloor x = new MosaicFloor();
        x.floor(12, 12);
        wantEverywhere(x, 8);
        x.floor(12, 12);
        for (int y = 1; y < 11; y++) {
            for (int column = 1; column < 11; column++) {
                due.is("want at " + column + ", " + y + " of the greatest", x.cell(column, y, 0), 50);
            }
        }
    }

    private static void wantEverywhere(MosaicFloor x, int shade) {
        int columns = x.count(0);
        int rows = x.count(1);
        for (int y = 1; y < rows - 1; y++) {
            for (int column = 1; column < columns - 1; column++) {
                x.want(column, y, shade);
            }
        }
    }

    private static void stoneAndPatternStay() {
        due.by("Promise 2: Strips, tesserae at hand, pattern and way stay.");
        int[][] sides = {{6, 4}, {3, 3}, {12, 12}};
        for (int[] side : sides) {
            MosaicFloor x = Due.withPattern("11,22,33", 2, 6, 4);
            x.strip(100, 9);
            x.strip(50, 8);
            x.flaw(0, 0);
            x.flaw(0, 99);
            x.cut(0);
            x.cut(0);
            x.cut(1);
            List<Integer> accounts = Due.accounts(x);
            x.floor(side[0], side[1]);
            due.is("strips", x.count(9), 2);
            due.is("left", x.stripOf(0, 2), 56);
            due.is("flaws", x.stripOf(0, 3), 2);
            due.is("at hand", x.count(10), 2);
            due.is("ready of the first shade", x.ready(9), 1 + 2);
            due.is("ready of the second shade", x.ready(8), 1 + 1);
            due.is("length of the pattern", x.count(3), 3);
            due.is("its last shade", x.shade(2), 33);
            due.is("way", x.count(4), 2);
            due.is("size", x.count(15), 20);
            due.is("loss", x.count(16), 2);
            due.is("text", x.count(14), 8);
            due.is("broken", x.count(11), 1);
            due.same("accounts", Due.accounts(x), accounts);
        }
    }

    private static void floorIsRefused() {
        due.by("Promise 2: Returns the number of cells; INVALID_ARGUMENT if an argument is out of range; NOT_POSSIBLE if "
                + "a cell is laid.");
        MosaicFloor x = Due.withStrips(100, 50);
        due.is("floor(3, 3)", x.floor(3, 3), 9);
        due.is("floor(12, 12)", x.floor(12, 12), 144);
        due.is("floor(3, 12)", x.floor(3, 12), 36);
        due.is("floor(2, 12)", x.floor(2, 12), -1);
        due.is("floor(13, 12)", x.floor(13, 12), -1);
        due.is("floor(3, 2)", x.floor(3, 2), -1);
        due.is("floor(3, 13)", x.floor(3, 13), -1);
        due.is("floor(2, 13)", x.floor(2, 13), -1);
        int[][] cells = {{0, 0}, {2, 11}, {1, 1}, {1, 10}};
        for (int[] cell : cells) {
            x.lay(cell[0], cell[1]);
            due.is("floor with one cell laid", x.floor(3, 12), -2);
            due.is("wrong columns with one cell laid", x.floor(2, 12), -1);
            x.undo();
            due.is("floor with none laid any more", x.floor(3, 12), 36);
        }
    }

    // ---- promise 3

    private static void settingsHaveLimits() {
        due.by("Promise 3: 0: the size (5 to 60); 1: the loss of the saw (0 to 5)");
        MosaicFloor x = new MosaicFloor();
        int last = 20;
        for (int size = -1; size <= 62; size++) {
            boolean right = size >= 5 && size <= 60;
            due.is("set(0, " + size + ")", x.set(0, size), right ? last : -1);
            last = right ? size : last;
            due.is("size", x.count(15), last);
        }
        last = 2;
        for (int loss = -2; loss <= 7; loss++) {
            boolean right = loss >= 0 && loss <= 5;
            due.is("set(1, " + loss + ")", x.set(1, loss), right ? last : -1);
            last = right ? loss : last;
            due.is("loss", x.count(16), last);
        }
    }

    private static void setTellsThePreviousValue() {
        due.by("Promise 3: Returns the previous value");
        MosaicFloor x = new MosaicFloor();
        due.is("set(0, 60)", x.set(0, 60), 20);
        due.is("set(0, 60) again", x.set(0, 60), 60);
        due.is("set(0, 5)", x.set(0, 5), 60);
        due.is("set(1, 5)", x.set(1, 5), 2);
        due.is("set(1, 0)", x.set(1, 0), 5);
        due.is("set(1, 1)", x.set(1, 1), 0);
        due.is("set(0, 6)", x.set(0, 6), 5);
        x.undo();
        due.is("behind undo", x.set(0, 7), 5);
    }

    private static void setIsRefused() {
        due.by("Promise 3: INVALID_ARGUMENT if an argument is out of range; NOT_POSSIBLE for 0 if a cell is laid.");
        MosaicFloor x = Due.withStrips(100, 50);
        int[] wrong = {-1, 2, 3, Integer.MIN_VALUE, Integer.MAX_VALUE};
        for (int what : wrong) {
            due.is("set(" + what + ", 5)", x.set(what, 5), -1);
        }
        x.lay(0, 0);
        due.is("the size with a laid cell", x.set(0, 30), -2);
        due.is("a wrong size with a laid cell", x.set(0, 61), -1);
        due.is("the loss with a laid cell", x.set(1, 5), 2);
        due.is("a wrong loss with a laid cell", x.set(1, 6), -1);
        due.is("size", x.count(15), 20);
        due.is("loss", x.count(16), 5);
        x.lift(0, 0);
        due.is("the size with no laid cell", x.set(0, 30), 20);
    }

    // ---- promise 4

    private static void patternIsTakenOfTheText() {
        due.by("Promise 4: Takes the pattern of the text, which stays, for the border.");
        MosaicFloor x = new MosaicFloor();
        Due.typeText(x, "1,2,3,4,5,6,7,8");
        due.is("pattern", x.pattern(), 8);
        due.is("text", x.count(14), 15);
        due.is("the last cell but one wants", x.cell(0, 2, 0), 7);
        Due.typeText(x, "99");
        due.is("the pattern is not the text", x.shade(0), 1);
        due.is("a shorter pattern", x.pattern(), 1);
        due.is("its shade", x.shade(0), 99);
        due.is("no second one", x.shade(1), -4);
        for (int wanted : Due.border(x)) {
            due.is("the border wants it", wanted, 99);
        }
        due.is("the field does not", x.cell(1, 1, 0), 50);
        x.clearText();
        due.is("the pattern stays without the text", x.shade(0), 99);
    }

    private static void patternIsRefused() {
        due.by("Promise 4: Returns its length; NOT_POSSIBLE if the text has a fault, or a cell is laid.");
        MosaicFloor x = Due.withStrips(100, 0);
        String[] faulty = {"", ",", "1,", "100", "a", "1,2,3,4,5,6,7,8,9"};
        for (String text : faulty) {
            Due.typeText(x, text);
            due.is("pattern of \"" + text + "\"", x.pattern(), -2);
            due.is("the old pattern stays", x.count(3), 1);
        }
        for (int length = 1; length <= 8; length++) {
            Due.typeText(x, Due.shadesFrom10(length));
            due.is("pattern of " + length, x.pattern(), length);
        }
        x.lay(1, 1);
        due.is("with a laid cell", x.pattern(), -2);
        Due.typeText(x, "1,");
        due.is("with a fault and a laid cell", x.pattern(), -2);
        x.lift(1, 1);
        due.is("with a fault alone", x.pattern(), -2);
        x.type('2');
        due.is("with none of both", x.pattern(), 2);
    }

    // ---- promise 5

    private static void wayTellsThePreviousWay() {
        due.by("Promise 5: Returns the previous way");
        MosaicFloor x = new MosaicFloor();
        int[] ways = {0, 2, 2, 1, 0, 1, 2};
        int last = 0;
        for (int way : ways) {
            due.is("way(" + way + ")", x.way(way), last);
            due.is("count(4)", x.count(4), way);
            last = way;
        }
        x.undo();
        due.is("behind undo", x.way(0), 1);
    }

    private static void wayIsRefused() {
        due.by("Promise 5: INVALID_ARGUMENT if way is out of range; NOT_POSSIBLE if a cell is laid.");
        MosaicFloor x = Due.withStrips(100, 0);
        int[] wrong = {-1, 3, Integer.MIN_VALUE, Integer.MAX_VALUE};
        for (int way : wrong) {
            due.is("way(" + way + ")", x.way(way), -1);
        }
        x.lay(1, 2);
        due.is("with a laid cell", x.way(2), -2);
        due.is("a wrong way with a laid cell", x.way(3), -1);
        due.is("count(4)", x.count(4), 0);
        x.lift(1, 2);
        due.is("with none", x.way(2), 0);
    }

    // ---- promise 6

    private static void wantTellsThePreviousShade() {
        due.by("Promise 6: Returns the previous shade");
        MosaicFloor x = new MosaicFloor();
        int[][] cells = {{1, 1}, {4, 1}, {1, 2}, {4, 2}};
        for (int[] cell : cells) {
            due.is("want 99", x.want(cell[0], cell[1], 99), 50);
            due.is("want 0", x.want(cell[0], cell[1], 0), 99);
            due.is("want 0 again", x.want(cell[0], cell[1], 0), 0);
            due.is("it wants", x.cell(cell[0], cell[1], 0), 0);
        }
        due.is("another one", x.cell(2, 1, 0), 50);
    }

    private static void wantIsRefused() {
        due.by("Promise 6: INVALID_ARGUMENT if an argument is out of range; NOT_POSSIBLE if the cell is of the border, "
                + "or laid.");
        MosaicFloor x = Due.withStrips(100, 50);
        due.is("want(1, 1, -1)", x.want(1, 1, -1), -1);
        due.is("want(1, 1, 100)", x.want(1, 1, 100), -1);
        due.is("want(-1, 1, 5)", x.want(-1, 1, 5), -1);
        due.is("want(6, 1, 5)", x.want(6, 1, 5), -1);
        due.is("want(1, -1, 5)", x.want(1, -1, 5), -1);
        due.is("want(1, 4, 5)", x.want(1, 4, 5), -1);
        int[][] border = {{0, 0}, {5, 0}, {5, 3}, {0, 3}, {2, 0}, {5, 1}, {3, 3}, {0, 2}};
        for (int[] cell : border) {
            due.is("want of the border at " + cell[0] + ", " + cell[1], x.want(cell[0], cell[1], 5), -2);
            due.is("a wrong shade there", x.want(cell[0], cell[1], 100), -1);
        }
        x.lay(1, 1);
        x.lay(0, 0);
        due.is("want of a laid cell", x.want(1, 1, 5), -2);
        due.is("want of a laid cell of the border", x.want(0, 0, 5), -2);
        due.is("want of an empty cell beside it", x.want(2, 1, 5), 50);
        x.lift(1, 1);
        due.is("want of the cell that is empty again", x.want(1, 1, 5), 50);
    }

    // ---- promise 7

    private static void cellTells() {
        due.by("Promise 7: 0: the shade that it wants; 1: the shade that is laid; 2: the size of the difference of both; "
                + "3: its number in the border");
        MosaicFloor x = Due.withPattern("30,70", 0, 3, 3);
        x.strip(1000, 50);
        x.want(1, 1, 49);
        x.layAll();
        int[][] cells = {{0, 0, 30, 20, 0}, {1, 0, 70, 20, 1}, {2, 2, 30, 20, 4}, {0, 1, 70, 20, 7}, {1, 1, 49, 1, -4}};
        for (int[] c : cells) {
            due.is("wanted", x.cell(c[0], c[1], 0), c[2]);
            due.is("laid", x.cell(c[0], c[1], 1), 50);
            due.is("difference", x.cell(c[0], c[1], 2), c[3]);
            due.is("number", x.cell(c[0], c[1], 3), c[4]);
        }
        x = Due.withStrips(100, 99, 0);
        x.lay(0, 0);
        x.want(1, 1, 98);
        x.lay(1, 1);
        due.is("the shade 0 is laid", x.cell(0, 0, 1), 0);
        due.is("no difference", x.cell(0, 0, 2), 0);
        due.is("the shade 99 is laid", x.cell(1, 1, 1), 99);
        due.is("a difference of 1", x.cell(1, 1, 2), 1);
    }

    private static void cellIsRefused() {
        due.by("Promise 7: Returns the number; INVALID_ARGUMENT if an argument is out of range");
        MosaicFloor x = new MosaicFloor();
        int[] wrong = {-1, 4, 5, Integer.MIN_VALUE, Integer.MAX_VALUE};
        for (int what : wrong) {
            due.is("cell(0, 0, " + what + ")", x.cell(0, 0, what), -1);
            due.is("cell(1, 1, " + what + ")", x.cell(1, 1, what), -1);
        }
        for (int what = 0; what <= 3; what++) {
            due.is("cell(6, 0, " + what + ")", x.cell(6, 0, what), -1);
            due.is("cell(0, 4, " + what + ")", x.cell(0, 4, what), -1);
            due.is("cell(-1, 0, " + what + ")", x.cell(-1, 0, what), -1);
            due.is("cell(0, -1, " + what + ")", x.cell(0, -1, what), -1);
        }
    }

    private static void cellFindsNothing() {
        due.by("Promise 7: NOT_FOUND for 1 and 2 if it is empty, for 3 if it is of the field");
        MosaicFloor x = Due.withStrips(100, 50);
        int[][] cells = {{0, 0}, {5, 3}, {1, 1}, {4, 2}};
        for (int[] cell : cells) {
            due.is("laid of an empty one", x.cell(cell[0], cell[1], 1), -4);
            due.is("difference of an empty one", x.cell(cell[0], cell[1], 2), -4);
            due.is("wanted of an empty one", x.cell(cell[0], cell[1], 0) >= 0 ? 1 : 0, 1);
        }
        x.lay(1, 1);
        x.lay(0, 0);
        due.is("number of a laid one of the field", x.cell(1, 1, 3), -4);
        due.is("number of a laid one of the border", x.cell(0, 0, 3), 0);
        x.lift(1, 1);
        due.is("laid, behind lift", x.cell(1, 1, 1), -4);
        due.is("difference, behind lift", x.cell(1, 1, 2), -4);
    }

    // ---- promise 8

    private static void countsOfTheFloor() {
        due.by("Promise 8: 0: columns; 1: rows; 2: cells of the border; 3: the length of the pattern; 4: the way; 5: 1 "
                + "if the border meets, otherwise 0");
        int[][] sides = {{3, 3, 8}, {3, 12, 26}, {12, 3, 26}, {12, 12, 44}, {6, 4, 16}};
        for (int[] side : sides) {
            MosaicFloor x = Due.withPattern("1,1", 2, side[0], side[1]);
            due.is("columns", x.count(0), side[0]);
            due.is("rows", x.count(1), side[1]);
            due.is("cells of the border", x.count(2), side[2]);
            due.is("length of the pattern", x.count(3), 2);
            due.is("way", x.count(4), 2);
            due.is("the border meets", x.count(5), 1);
            Due.typeText(x, "1,1,2");
            x.pattern();
            x.way(0);
            due.is("it does not", x.count(5), 0);
        }
    }

    private static void countsOfWhatIsLaid() {
        due.by("Promise 8: 6: laid cells; 7: the sum of the differences of all laid cells; 8: the greatest of them");
        MosaicFloor x = Due.withStrips(1000, 50);
        x.floor(12, 12);
        x.set(0, 5);
        x.set(1, 1);
        x.want(1, 1, 99);
        x.want(10, 10, 45);
        due.is("laid cells, none", x.count(6), 0);
        due.is("sum, none", x.count(7), 0);
        x.lay(10, 10);
        due.is("one of the field", x.count(6), 1);
        due.is("its difference", x.count(7), 5);
        due.is("the greatest", x.count(8), 5);
        x.lay(2, 2);
        due.is("without difference", x.count(7), 5);
        due.is("the greatest", x.count(8), 5);
        x.lay(1, 1);
        x.lay(11, 11);
        due.is("laid cells", x.count(6), 4);
        due.is("sum", x.count(7), 5 + 49 + 50);
        due.is("the greatest", x.count(8), 50);
        due.is("all", x.layAll(), 140);
        due.is("the greatest of all", x.count(8), 50);
        due.is("all laid cells", x.count(6), 144);
        due.is("the sum of all", x.count(7), 5 + 49 + 44 * 50);
        for (int i = 0; i < 12; i++) {
            x.lift(11, i);
        }
        due.is("laid cells behind lift", x.count(6), 132);
        due.is("sum behind lift", x.count(7), 5 + 49 + 32 * 50);
        int[][] corners = {{0, 0}, {5, 0}, {5, 3}, {0, 3}};
        for (int[] corner : corners) {
            MosaicFloor y = Due.withStrips(100, 50);
            y.lay(1, 1);
            y.lay(corner[0], corner[1]);
            due.is("the greatest at " + corner[0] + ", " + corner[1], y.count(8), 50);
            due.is("the sum with " + corner[0] + ", " + corner[1], y.count(7), 50);
        }
    }

    private static void countsOfTheStone() {
        due.by("Promise 8: 9: strips; 10: tesserae at hand; 11: broken ones; 12: lifted ones");
        MosaicFloor x = Due.withStrips(1000, 50, 50);
        x.flaw(0, 0);
        x.cut(0);
        x.cut(0);
        x.cut(1);
        due.is("strips", x.count(9), 2);
        due.is("at hand", x.count(10), 2);
        due.is("broken", x.count(11), 1);
        due.is("lifted", x.count(12), 0);
        x.layAll();
        due.is("at hand, all laid", x.count(10), 0);
        for (int i = 0; i < 5; i++) {
            x.lift(i, 0);
        }
        due.is("at hand, five lifted", x.count(10), 4);
        due.is("broken, five lifted", x.count(11), 2);
        due.is("lifted", x.count(12), 5);
        x.layAll();
        due.is("lifted ones that are laid again", x.count(12), 5);
        due.is("broken ones stay", x.count(11), 2);
    }

    private static void countsOfTheRest() {
        due.by("Promise 8: 13: states in the history; 14: the length of the text; 15: the size; 16: the loss of the saw; "
                + "20 to 26: the accounts 0 to 6");
        MosaicFloor x = new MosaicFloor();
        x.set(0, 60);
        x.set(1, 5);
        x.type(',');
        x.strip(1000, 9);
        due.is("states", x.count(13), 3);
        due.is("text", x.count(14), 1);
        due.is("size", x.count(15), 60);
        due.is("loss", x.count(16), 5);
        x.flaw(0, 0);
        x.cut(0);
        x.cut(0);
        x.set(0, 50);
        x.cut(0);
        x.lay(0, 0);
        x.cut(0);
        int[] accounts = {1000, 1000 - 65 - 65 - 55 - 55, 50, 50, 60, 20, 60};
        for (int i = 0; i < accounts.length; i++) {
            due.is("count(" + (20 + i) + ")", x.count(20 + i), accounts[i]);
        }
    }

    private static void countIsRefused() {
        due.by("Promise 8: Returns the number; INVALID_ARGUMENT if what is out of range");
        MosaicFloor x = new MosaicFloor();
        int[] wrong = {Integer.MIN_VALUE, -20, -1, 17, 18, 19, 27, 28, 100, Integer.MAX_VALUE};
        for (int what : wrong) {
            due.is("count(" + what + ")", x.count(what), -1);
        }
        due.is("count(0)", x.count(0), 6);
        due.is("count(16)", x.count(16), 2);
        due.is("count(20)", x.count(20), 0);
        due.is("count(26)", x.count(26), 0);
    }

    private static void countFindsNoGreatest() {
        due.by("Promise 8: NOT_FOUND for 8 if no cell is laid");
        MosaicFloor x = Due.withStrips(100, 50);
        due.is("none is laid", x.count(8), -4);
        x.lay(1, 1);
        due.is("one is laid without difference", x.count(8), 0);
        x.lift(1, 1);
        due.is("none is laid any more", x.count(8), -4);
        x.layAll();
        due.is("some are laid", x.count(8), 50);
        x.undo();
        due.is("none is laid behind undo", x.count(8), -4);
    }

    // ---- promise 9

    private static void shadeTells() {
        due.by("Promise 9: Returns a shade of the pattern.");
        MosaicFloor x = Due.withPattern("0,99,5,05,7,8,9,10", 1, 3, 3);
        int[] shades = {0, 99, 5, 5, 7, 8, 9, 10};
        for (int i = 0; i < 8; i++) {
            due.is("shade(" + i + ")", x.shade(i), shades[i]);
        }
    }

    private static void shadeIsRefused() {
        due.by("Promise 9: INVALID_ARGUMENT if index is negative; NOT_FOUND if the pattern is not so long");
        for (int length = 1; length <= 8; length++) {
            MosaicFloor x = Due.withPattern(Due.shadesFrom10(length), 0, 6, 4);
            due.is("shade(-1)", x.shade(-1), -1);
            due.is("shade of the least", x.shade(Integer.MIN_VALUE), -1);
            due.is("the last one", x.shade(length - 1), 9 + length);
            due.is("one behind it", x.shade(length), -4);
            due.is("shade(8)", x.shade(8), -4);
            due.is("shade of the greatest", x.shade(Integer.MAX_VALUE), -4);
        }
        MosaicFloor x = Due.withPattern("1,2,3", 0, 6, 4);
        Due.typeText(x, "7,8");
        x.pattern();
        due.is("a shade of a longer pattern that was", x.shade(2), -4);
    }

    // ---- promise 10

    private static void undoTellsTheStatesLeft() {
        due.by("Promise 10: Restores the latest state of the history, which is removed from it. [..] Returns the number "
                + "of states that are left in the history");
        MosaicFloor x = new MosaicFloor();
        for (int changes = 1; changes <= 7; changes++) {
            x.way(changes % 3);
        }
        int[] ways = {0, 2, 1, 0, 2};
        for (int i = 0; i < 5; i++) {
            due.is("undo", x.undo(), 4 - i);
            due.is("states", x.count(13), 4 - i);
            due.is("way", x.count(4), ways[i]);
        }
        x.way(1);
        due.is("undo of one change", x.undo(), 0);
        due.is("way", x.count(4), 2);
    }

    private static void undoIsRefused() {
        due.by("Promise 10: NOT_POSSIBLE if it is empty");
        MosaicFloor x = new MosaicFloor();
        due.is("a new floor", x.undo(), -2);
        x.floor(2, 2);
        due.is("behind an error", x.undo(), -2);
        x.type('1');
        due.is("behind a text", x.undo(), -2);
        x.strip(100, 5);
        due.is("behind a change", x.undo(), 0);
        due.is("again", x.undo(), -2);
        due.is("and again", x.undo(), -2);
        due.is("states", x.count(13), 0);
        due.is("a change behind it", x.strip(100, 5) + x.count(13), 1);
    }
}
