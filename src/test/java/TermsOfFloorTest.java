import java.util.ArrayList;
import java.util.List;

/** The sentences of the document's "Floor, border, field" that name a boundary, each with a test of its own. */
final class TermsOfFloorTest {
    private static final Due due = new Due("TermsOfFloorTest");

    public static void main(String[] args) {
        sidesAreThreeToTwelve();
        cellsBeginAtTheUpperLeft();
        borderIsFirstAndLast();
        borderIsNumberedClockwise();
        patternHasOneToEightShades();
        patternIsNumberedFrom0();
        wayAroundWraps();
        wayFromCornersWraps();
        wayByWholePatternsHasARest();
        fieldWants50();
        borderMeetsWithoutEqualNeighbours();
        borderMeetsFromTheLastCellToTheFirst();
        borderMeetsWithOneShade();
        shadesAreFrom0To99();
        lastOf512CallsIsAnswered();
        due.end();
    }

    private static void sidesAreThreeToTwelve() {
        due.by("The floor has w columns and h rows of cells (3 to 12 each, initially 6 by 4)");
        MosaicFloor x = new MosaicFloor();
        due.is("columns of a new floor", x.count(0), 6);
        due.is("rows of a new floor", x.count(1), 4);
        for (int columns = 3; columns <= 12; columns++) {
            for (int rows = 3; rows <= 12; rows++) {
                due.is("floor(" + columns + ", " + rows + ")", x.floor(columns, rows), columns * rows);
                due.is("columns", x.count(0), columns);
                due.is("rows", x.count(1), rows);
            }
        }
        int[] wrong = {Integer.MIN_VALUE, -12, -3, -1, 0, 1, 2, 13, 14, 256 + 5, 65536 + 5, Integer.MAX_VALUE};
        for (int side : wrong) {
            due.is("floor(" + side + ", 5)", x.floor(side, 5), -1);
            due.is("floor(5, " + side + ")", x.floor(5, side), -1);
        }
        due.is("columns behind wrong ones", x.count(0), 12);
        due.is("rows behind wrong ones", x.count(1), 12);
    }

    private static void cellsBeginAtTheUpperLeft() {
        due.by("cell (x, y) with x from 0 at the left and y from 0 at the top");
        MosaicFloor x = Due.withPattern(Due.shadesFrom10(8), 0, 5, 3);
        due.is("cell(0, 0)", x.cell(0, 0, 0), 10);
        due.is("cell(4, 0), to the right", x.cell(4, 0, 0), 14);
        due.is("cell(4, 2), the last one", x.cell(4, 2, 0), 16);
        due.is("cell(0, 2), at the bottom", x.cell(0, 2, 0), 12);
        due.is("cell(5, 0)", x.cell(5, 0, 0), -1);
        due.is("cell(0, 3)", x.cell(0, 3, 0), -1);
        due.is("cell(-1, 1)", x.cell(-1, 1, 0), -1);
        due.is("cell(1, -1)", x.cell(1, -1, 0), -1);
        due.is("cell(2, 4), if x and y were taken for one another", x.cell(2, 4, 0), -1);
    }

    private static void borderIsFirstAndLast() {
        due.by("The border has all cells of the first and last column and row; the others are the field.");
        int[][] sides = {{3, 3}, {3, 12}, {12, 3}, {4, 3}, {6, 4}, {12, 12}};
        for (int[] side : sides) {
            MosaicFloor x = new MosaicFloor();
            x.floor(side[0], side[1]);
            int border = 0;
            for (int y = 0; y < side[1]; y++) {
                for (int column = 0; column < side[0]; column++) {
                    boolean field = column > 0 && column < side[0] - 1 && y > 0 && y < side[1] - 1;
                    due.is("want(" + column + ", " + y + ")", x.want(column, y, 1), field ? 50 : -2);
                    due.is("number of " + column + ", " + y + " is none", x.cell(column, y, 3) == -4 ? 1 : 0, field ? 1 : 0);
                    border += field ? 0 : 1;
                }
            }
            due.is("cells of the border", x.count(2), border);
        }
    }

    private static void borderIsNumberedClockwise() {
        due.by("The cells of the border are numbered clockwise from 0 at (0, 0): along the first row, down the last "
                + "column, back along the last row, and up the first column.");
        for (int columns = 3; columns <= 12; columns++) {
            for (int rows = 3; rows <= 12; rows++) {
                MosaicFloor x = new MosaicFloor();
                x.floor(columns, rows);
                numbersAre(x, columns, rows);
            }
        }
    }

    private static void numbersAre(MosaicFloor x, int columns, int rows) {
        int number = 0;
        for (int column = 0; column < columns; column++) {
            due.is(columns + " by " + rows + ": first row", x.cell(column, 0, 3), number++);
        }
        for (int y = 1; y < rows; y++) {
            due.is(columns + " by " + rows + ": last column", x.cell(columns - 1, y, 3), number++);
        }
        for (int column = columns - 2; column >= 0; column--) {
            due.is(columns + " by " + rows + ": last row", x.cell(column, rows - 1, 3), number++);
        }
        for (int y = rows - 2; y >= 1; y--) {
            due.is(columns + " by " + rows + ": first column", x.cell(0, y, 3), number++);
        }
        due.is(columns + " by " + rows + ": cells of the border", x.count(2), number);
    }

    private static void patternHasOneToEightShades() {
        due.by("The border has a pattern of 1 to 8 shades (initially 1, the shade 0)");
        MosaicFloor x = new MosaicFloor();
        due.is("length at first", x.count(3), 1);
        due.is("shade at first", x.shade(0), 0);
        due.is("no second one at first", x.shade(1), -4);
        due.is("the border wants it", x.cell(0, 0, 0) + x.cell(3, 0, 0) + x.cell(0, 2, 0), 0);
        for (int length = 1; length <= 8; length++) {
            Due.typeText(x, Due.shadesFrom10(length));
            due.is("pattern of " + length, x.pattern(), length);
            due.is("length", x.count(3), length);
        }
        Due.typeText(x, Due.shadesFrom10(9));
        due.is("pattern of 9", x.pattern(), -2);
        Due.typeText(x, "");
        due.is("pattern of 0", x.pattern(), -2);
        due.is("the pattern of 8 stays", x.count(3), 8);
    }

    private static void patternIsNumberedFrom0() {
        due.by("numbered from 0");
        for (int length = 1; length <= 8; length++) {
            MosaicFloor x = Due.withPattern(Due.shadesFrom10(length), 0, 6, 4);
            for (int i = 0; i < length; i++) {
                due.is("shade(" + i + ") of " + length, x.shade(i), 10 + i);
            }
            due.is("shade(" + length + ") of " + length, x.shade(length), -4);
        }
    }

    /** What the cells of the border want if the cell k has the shade number numbers.get(k). */
    private static void wants(int way, int length, int columns, int rows, List<Integer> numbers) {
        List<Integer> shades = new ArrayList<>();
        for (int number : numbers) {
            shades.add(10 + number);
        }
        MosaicFloor x = Due.withPattern(Due.shadesFrom10(length), way, columns, rows);
        due.same("way " + way + ", " + length + " shades, " + columns + " by " + rows, Due.border(x), shades);
    }

    private static void wayAroundWraps() {
        due.by("0 around (initially), the cell k of the border wants the shade k modulo the length of the pattern");
        due.is("the way at first", new MosaicFloor().count(4), 0);
        int[][] sides = {{3, 3}, {4, 3}, {3, 12}, {7, 6}, {12, 12}};
        for (int[] side : sides) {
            for (int length = 1; length <= 8; length++) {
                List<Integer> numbers = new ArrayList<>();
                for (int k = 0; k < 2 * (side[0] + side[1]) - 4; k++) {
                    numbers.add(k % length);
                }
                wants(0, length, side[0], side[1], numbers);
            }
        }
    }

    private static void wayFromCornersWraps() {
        due.by("1 from the corners, a corner wants the shade 0 of the pattern, and any other cell of the border the "
                + "shade number d modulo the length, d being the lesser one of its distances to the two corners of its "
                + "side");
        wants(1, 8, 3, 3, List.of(0, 1, 0, 1, 0, 1, 0, 1));
        wants(1, 8, 4, 3, List.of(0, 1, 1, 0, 1, 0, 1, 1, 0, 1));
        wants(1, 1, 4, 3, List.of(0, 0, 0, 0, 0, 0, 0, 0, 0, 0));
        wants(1, 2, 5, 6, List.of(0, 1, 0, 1, 0, 1, 0, 0, 1, 0, 1, 0, 1, 0, 1, 0, 0, 1));
        for (int length = 1; length <= 8; length++) {
            List<Integer> numbers = new ArrayList<>();
            int[] twelve = {0, 1, 2, 3, 4, 5, 5, 4, 3, 2, 1};
            int[] eleven = {0, 1, 2, 3, 4, 5, 4, 3, 2, 1};
            for (int side = 0; side < 4; side++) {
                for (int d : side % 2 == 0 ? twelve : eleven) {
                    numbers.add(d % length);
                }
            }
            wants(1, length, 12, 11, numbers);
        }
    }

    private static void wayByWholePatternsHasARest() {
        due.by("2 by whole patterns, a side has the cells from its first corner (clockwise) up to, but without, the next "
                + "corner, numbered j from 0 to n - 1: the cell j wants the shade j modulo the length of the pattern, "
                + "but the last (n modulo the length) cells of the side want the shade 0 of it");
        wants(2, 2, 3, 3, List.of(0, 1, 0, 1, 0, 1, 0, 1));
        wants(2, 3, 3, 3, List.of(0, 0, 0, 0, 0, 0, 0, 0));
        wants(2, 8, 9, 3, List.of(0, 1, 2, 3, 4, 5, 6, 7, 0, 0, 0, 1, 2, 3, 4, 5, 6, 7, 0, 0));
        wants(2, 8, 8, 3, List.of(0, 0, 0, 0, 0, 0, 0, 0, 0, 0, 0, 0, 0, 0, 0, 0, 0, 0));
        wants(2, 4, 5, 8, List.of(0, 1, 2, 3, 0, 1, 2, 3, 0, 0, 0, 0, 1, 2, 3, 0, 1, 2, 3, 0, 0, 0));
        wants(2, 1, 4, 3, List.of(0, 0, 0, 0, 0, 0, 0, 0, 0, 0));
        wants(2, 5, 12, 3, List.of(0, 1, 2, 3, 4, 0, 1, 2, 3, 4, 0, 0, 0, 0, 1, 2, 3, 4, 0, 1, 2, 3, 4, 0, 0, 0));
        wants(2, 2, 3, 12, List.of(0, 1, 0, 1, 0, 1, 0, 1, 0, 1, 0, 1, 0, 0, 1, 0, 1, 0, 1, 0, 1, 0, 1, 0, 1, 0));
    }

    private static void fieldWants50() {
        due.by("The field wants a shade in each cell (initially 50).");
        MosaicFloor x = new MosaicFloor();
        for (int y = 1; y <= 2; y++) {
            for (int column = 1; column <= 4; column++) {
                due.is("cell(" + column + ", " + y + ", 0)", x.cell(column, y, 0), 50);
            }
        }
        due.is("want of one cell", x.want(2, 1, 7), 50);
        due.is("it", x.cell(2, 1, 0), 7);
        due.is("the one to the right of it", x.cell(3, 1, 0), 50);
        due.is("the one below it", x.cell(2, 2, 0), 50);
    }

    private static int meets(String pattern, int way, int columns, int rows) {
        return Due.withPattern(pattern, way, columns, rows).count(5);
    }

    private static void borderMeetsWithoutEqualNeighbours() {
        due.by("The border meets if around it [..] no two neighbouring cells want the same shade");
        due.is("two shades by turns", meets("1,2", 0, 5, 4), 1);
        due.is("the first two are equal", meets("1,1,2", 0, 4, 5), 0);
        due.is("two amid the pattern are equal", meets("1,2,2,3", 0, 4, 4), 0);
        due.is("the last two of the pattern are equal", meets("1,2,3,3", 0, 4, 4), 0);
        due.is("the last of a pattern and the first of the next are equal", meets("1,2,3,1", 0, 4, 4), 0);
        due.is("an equal shade that is no neighbour", meets("1,2,1,3", 0, 4, 4), 1);
        due.is("equal, but not reached around the border", meets("1,2,3,4,5,6,7,7", 1, 12, 12), 0);
        due.is("equal at the end of the pattern, not wanted by any cell", meets("1,2,3,4,4", 1, 7, 5), 1);
        due.is("two in the middle of a side, way 1", meets("1,2,3,4,5,6", 1, 12, 11), 0);
        due.is("one in the middle of each side, way 1", meets("1,2,3,4,5,6", 1, 11, 9), 1);
        due.is("equal neighbours in a column alone", meets("1,2,3", 1, 5, 6), 0);
        due.is("no cell over, way 2", meets("1,2,3", 2, 4, 7), 1);
        due.is("a cell over ahead of a corner, in a column alone", meets("1,2,3", 2, 4, 8), 0);
        due.is("a cell over ahead of a corner, in a row alone", meets("1,2,3", 2, 8, 4), 0);
        due.is("several shades, but one that the border wants", meets("1,2,3", 2, 3, 3), 0);
    }

    private static void borderMeetsFromTheLastCellToTheFirst() {
        due.by("from the last cell to the first one too");
        due.is("10 cells, 1,2,3: the last and the first want 1", meets("1,2,3", 0, 4, 3), 0);
        due.is("16 cells, 1,2,3", meets("1,2,3", 0, 5, 5), 0);
        due.is("18 cells, 1,2,3: the last wants 3", meets("1,2,3", 0, 6, 5), 1);
        due.is("14 cells, 1,2,3: the last wants 2", meets("1,2,3", 0, 5, 4), 1);
        due.is("8 cells, 1,2,3,4,5,6,7: the last and the first want 1", meets("1,2,3,4,5,6,7", 0, 3, 3), 0);
        due.is("44 cells, 1,2,3,4,5: the last wants 4", meets("1,2,3,4,5", 0, 12, 12), 1);
        due.is("44 cells, 1,2,3,1,5: the last wants 1", meets("1,2,3,1,5", 0, 12, 12), 0);
    }

    private static void borderMeetsWithOneShade() {
        due.by("or if the pattern has only one shade in it, whatever its length");
        due.is("the pattern at first", new MosaicFloor().count(5), 1);
        String text = "7";
        for (int length = 1; length <= 8; length++) {
            for (int way = 0; way <= 2; way++) {
                due.is("one shade, " + length + " times, way " + way, meets(text, way, 4, 3), 1);
            }
            text = text + ",07";
        }
        for (int other = 0; other < 8; other++) {
            StringBuilder shades = new StringBuilder("7,7,7,7,7,7,7,7");
            shades.setCharAt(2 * other, '8');
            due.is("one of eight is another one: " + shades, meets(shades.toString(), 0, 4, 3), 0);
        }
        due.is("two shades, one of them 0", meets("0,0,1", 0, 4, 3), 0);
    }

    private static void shadesAreFrom0To99() {
        due.by("shades are from 0 to 99");
        MosaicFloor x = new MosaicFloor();
        int[] wrong = {Integer.MIN_VALUE, -1, 100, 256, Integer.MAX_VALUE};
        for (int shade : wrong) {
            due.is("want(1, 1, " + shade + ")", x.want(1, 1, shade), -1);
            due.is("strip(100, " + shade + ")", x.strip(100, shade), -1);
            due.is("ready(" + shade + ")", x.ready(shade), -1);
            due.is("lacks(" + shade + ")", x.lacks(shade), -1);
            due.is("stripFor(" + shade + ")", x.stripFor(shade), -1);
        }
        int[] limits = {0, 99};
        for (int shade : limits) {
            due.is("strip(100, " + shade + ")", x.strip(100, shade), shade == 0 ? 0 : 1);
            due.is("ready(" + shade + ")", x.ready(shade), 4);
            due.is("lacks(" + shade + ")", x.lacks(shade), shade == 0 ? 12 : 0);
            due.is("stripFor(" + shade + ")", x.stripFor(shade), shade == 0 ? 262 : 0);
        }
        due.is("want(1, 1, 0)", x.want(1, 1, 0), 50);
        due.is("want(1, 1, 99)", x.want(1, 1, 99), 0);
        due.is("lay(1, 1)", x.lay(1, 1), 99);
        Due.typeText(x, "99,0");
        x.lift(1, 1);
        due.is("pattern", x.pattern(), 2);
        due.is("shade(0)", x.shade(0), 99);
        due.is("shade(1)", x.shade(1), 0);
    }

    private static void lastOf512CallsIsAnswered() {
        due.by("An object is used for at most 512 calls after it has been made");
        MosaicFloor x = new MosaicFloor();
        for (int call = 1; call <= 510; call++) {
            due.is("call " + call, call % 2 == 1 ? x.want(1, 1, call % 100) >= 0 ? 1 : 0 : x.count(13),
                    call % 2 == 1 ? 1 : Math.min(call / 2, 5));
        }
        due.is("call 511", x.strip(1000, 9), 0);
        due.is("call 512", x.layAll(), 24);
    }
}
