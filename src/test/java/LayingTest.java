import java.util.List;

/** Promises 15 to 22: lay, layAll, lift, nearest, ready, lacks, stripFor, ifLaid. */
final class LayingTest {
    private static final Due due = new Due("LayingTest");

    public static void main(String[] args) {
        layTakesTheNearestShade();
        layTakesFromHandFirst();
        layTakesTheLastOneAtHand();
        layCutsTheFirstStripUntilGood();
        layIsRefused();
        layAllHasAnOrder();
        layAllEndsWithTheStone();
        everyThirdOneLiftedBreaks();
        liftIsRefused();
        nearestTells();
        readyTells();
        lacksTells();
        stripForTells();
        ifLaidTells();
        ifLaidChangesNothing();
        due.end();
    }

    /** A floor whose cell (1, 1) wants 50, with a strip for each shade. */
    private static MosaicFloor withStrips(int... shades) {
        MosaicFloor x = new MosaicFloor();
        for (int shade : shades) {
            x.strip(100, shade);
        }
        return x;
    }

    private static void layTakesTheNearestShade() {
        due.is("above", withStrips(40, 59).lay(1, 1), 59);
        due.is("below", withStrips(61, 40).lay(1, 1), 40);
        due.is("as near", withStrips(60, 40).lay(1, 1), 40);
        due.is("as near, the other way round", withStrips(40, 60).lay(1, 1), 40);
        due.is("the shade itself", withStrips(49, 50, 51).lay(1, 1), 50);
        MosaicFloor x = withStrips(45, 55);
        x.cut(1);
        due.is("at hand and to be cut, as near", x.lay(1, 1), 45);
        due.is("it was cut", x.stripOf(0, 6), 1);
        x = withStrips(44, 55);
        x.cut(0);
        due.is("what can be cut is nearer than what is at hand", x.lay(1, 1), 55);
        due.is("what is at hand stays there", x.count(10), 1);
        due.is("far, but nothing else", withStrips(99).lay(0, 0), 99);
    }

    private static void layTakesFromHandFirst() {
        MosaicFloor x = withStrips(50, 50);
        x.cut(1);
        due.is("lay", x.lay(1, 1), 50);
        due.is("none at hand", x.count(10), 0);
        due.is("none was cut", x.stripOf(0, 6) + x.stripOf(1, 6), 1);
        due.is("lay another", x.lay(2, 1), 50);
        due.is("the first strip was cut", x.stripOf(0, 6), 1);
        due.is("the second one was not", x.stripOf(1, 6), 1);
    }

    private static void layTakesTheLastOneAtHand() {
        MosaicFloor x = new MosaicFloor();
        x.strip(20, 0);
        x.strip(20, 99);
        x.cut(0);
        x.cut(1);
        due.is("the nearer one at hand", x.nearest(1, 1), 99);
        due.is("laid from hand", x.lay(1, 1), 99);
        due.is("the last one", x.nearest(2, 1), 0);
        due.is("laid from hand too", x.lay(2, 1), 0);
        due.is("none is at hand", x.count(10), 0);
        due.is("no more", x.lay(3, 1), -2);
    }

    private static void layCutsTheFirstStripUntilGood() {
        MosaicFloor x = withStrips(50, 50);
        x.flaw(0, 3);
        x.flaw(0, 30);
        due.is("lay", x.lay(1, 1), 50);
        due.is("broken ones before the good one", x.count(11), 2);
        due.is("left of the first strip", x.stripOf(0, 2), 34);
        due.is("left of the second one", x.stripOf(1, 2), 100);
        due.is("their length", x.count(24), 40);
        due.is("the loss", x.count(25), 6);
        x.flaw(0, 70);
        due.is("lay another", x.lay(2, 1), 50);
        due.is("a strip that gives no good one is not cut", x.stripOf(0, 2), 34);
        due.is("the next one is", x.stripOf(1, 2), 78);
        x = withStrips(40, 50);
        x.flaw(1, 5);
        x.flaw(1, 25);
        x.flaw(1, 45);
        x.flaw(1, 70);
        due.is("no good one in the nearest strip", x.lay(1, 1), 40);
    }

    private static void layIsRefused() {
        MosaicFloor x = new MosaicFloor();
        due.is("no stone", x.lay(0, 0), -2);
        x.strip(30, 1);
        int[][] wrong = {{6, 0}, {-1, 0}, {0, 4}, {0, -1}, {12, 12}};
        for (int[] w : wrong) {
            due.is("lay(" + w[0] + ", " + w[1] + ")", x.lay(w[0], w[1]), -1);
        }
        due.is("lay(0, 0)", x.lay(0, 0), 1);
        due.is("laid already", x.lay(0, 0), -2);
        due.is("no stone is left", x.lay(1, 0), -2);
        due.is("states", x.count(13), 2);
    }

    /** The nearest shades go to the cells that come first. */
    private static void layAllHasAnOrder() {
        MosaicFloor x = new MosaicFloor();
        x.floor(5, 4);
        for (int i = 0; i < 5; i++) {
            x.strip(64, 10 * i);
        }
        due.is("layAll", x.layAll(), 15);
        laidIs(x, new int[][] {
            {0, 0, 0, 10, 10},
            {40, 40, -4, -4, 10},
            {40, -4, -4, -4, 20},
            {30, 30, 30, 20, 20}});
        x = new MosaicFloor();
        x.floor(5, 4);
        x.strip(306, 0);
        for (int i = 0; i < 6; i++) {
            x.strip(20, 55 - i);
        }
        due.is("layAll", x.layAll(), 20);
        laidIs(x, new int[][] {
            {0, 0, 0, 0, 0},
            {0, 50, 51, 52, 0},
            {0, 53, 54, 55, 0},
            {0, 0, 0, 0, 0}});
    }

    private static void laidIs(MosaicFloor x, int[][] laid) {
        for (int y = 0; y < laid.length; y++) {
            for (int column = 0; column < laid[y].length; column++) {
                due.is("laid at " + column + ", " + y, x.cell(column, y, 1), laid[y][column]);
            }
        }
    }

    private static void layAllEndsWithTheStone() {
        MosaicFloor x = new MosaicFloor();
        due.is("no stone", x.layAll(), 0);
        due.is("it is a change all the same", x.count(13), 1);
        x.strip(1000, 1);
        due.is("all cells", x.layAll(), 24);
        due.is("none is left", x.layAll(), 0);
        x.lift(1, 1);
        due.is("the empty one alone", x.layAll(), 1);
        due.is("laid cells", x.count(6), 24);
    }

    private static void everyThirdOneLiftedBreaks() {
        MosaicFloor x = new MosaicFloor();
        x.strip(1000, 8);
        x.layAll();
        int[] due9 = {1, 1, 0, 1, 1, 0, 1};
        for (int i = 0; i < due9.length; i++) {
            int row = i < 6 ? 0 : 1;
            due.is("lift " + (i + 1), x.lift(i % 6, row), due9[i]);
        }
        due.is("lifted ones", x.count(12), 7);
        due.is("broken ones", x.count(11), 2);
        due.is("at hand", x.count(10), 5);
        due.is("length of broken ones", x.count(24), 40);
        for (int y = 0; y < 4; y++) {
            for (int column = 0; column < 6; column++) {
                x.lift(column, y);
            }
        }
        due.is("all are lifted", x.count(12), 24);
        due.is("counted on", x.floor(3, 3) + x.layAll() + x.count(11), 9 + 9 + 8);
        due.is("25", x.lift(0, 0), 1);
        due.is("26", x.lift(1, 0), 1);
        due.is("27, on another floor", x.lift(2, 0), 0);
        x.undo();
        due.is("27 again", x.lift(1, 1), 0);
        due.is("the cell is empty", x.cell(1, 1, 1), -4);
    }

    private static void liftIsRefused() {
        MosaicFloor x = new MosaicFloor();
        due.is("an empty cell", x.lift(0, 0), -2);
        int[][] wrong = {{6, 0}, {-1, 0}, {0, 4}, {0, -1}};
        for (int[] w : wrong) {
            due.is("lift(" + w[0] + ", " + w[1] + ")", x.lift(w[0], w[1]), -1);
        }
        due.is("lifted ones", x.count(12), 0);
        x.strip(30, 77);
        x.lay(1, 1);
        due.is("lift", x.lift(1, 1), 1);
        due.is("it comes back to hand", x.ready(77), 1);
        due.is("lift again", x.lift(1, 1), -2);
    }

    private static void nearestTells() {
        MosaicFloor x = new MosaicFloor();
        due.is("no stone", x.nearest(1, 1), -4);
        int[][] wrong = {{6, 0}, {-1, 0}, {0, 4}, {0, -1}};
        for (int[] w : wrong) {
            due.is("nearest(" + w[0] + ", " + w[1] + ")", x.nearest(w[0], w[1]), -1);
        }
        x.strip(42, 48);
        x.strip(42, 52);
        due.is("as near", x.nearest(1, 1), 48);
        x.want(1, 1, 51);
        due.is("nearer", x.nearest(1, 1), 52);
        due.is("of the border", x.nearest(0, 0), 48);
        due.is("nothing is cut", x.count(21), 84);
        x.lay(1, 1);
        due.is("a laid cell", x.nearest(1, 1), -4);
        x.lay(0, 0);
        x.lay(1, 0);
        due.is("the other one alone is left", x.nearest(2, 0), 52);
        x.lay(2, 0);
        due.is("nothing is left", x.nearest(3, 0), -4);
        x = new MosaicFloor();
        x.strip(42, 50);
        x.flaw(0, 5);
        x.flaw(0, 41);
        due.is("two can be cut, but no good one", x.nearest(1, 1), -4);
        x.undo();
        x.flaw(0, 21);
        due.is("a flaw in what the saw takes", x.nearest(1, 1), 50);
    }

    private static void readyTells() {
        MosaicFloor x = new MosaicFloor();
        x.strip(100, 0);
        x.strip(1000, 99);
        x.strip(64, 0);
        x.flaw(0, 0);
        due.is("of two strips", x.ready(0), 3 + 3);
        due.is("of one", x.ready(99), 45);
        due.is("of none", x.ready(50), 0);
        x.cut(2);
        due.is("at hand too", x.ready(0), 6);
        x.cut(0);
        due.is("without the broken one", x.ready(0), 6);
        due.is("ready(-1)", x.ready(-1), -1);
        due.is("ready(100)", x.ready(100), -1);
    }

    private static void lacksTells() {
        MosaicFloor x = new MosaicFloor();
        due.is("of the border", x.lacks(0), 16);
        due.is("of the field", x.lacks(50), 8);
        x.want(1, 1, 0);
        due.is("of both", x.lacks(0), 17);
        due.is("of the others", x.lacks(50), 7);
        x.strip(100, 0);
        due.is("less what is ready", x.lacks(0), 13);
        x.lay(0, 0);
        due.is("one is laid", x.lacks(0), 13);
        x.strip(20, 9);
        x.cut(1);
        due.is("at least 0", x.lacks(9), 0);
        x.lay(4, 2);
        due.is("a cell with another shade is laid too", x.lacks(50), 6);
        x.strip(1000, 50);
        due.is("more than enough", x.lacks(50), 0);
        due.is("lacks(-1)", x.lacks(-1), -1);
        due.is("lacks(100)", x.lacks(100), -1);
    }

    private static void stripForTells() {
        MosaicFloor x = new MosaicFloor();
        due.is("16 sizes and 15 losses", x.stripFor(0), 350);
        due.is("none lacks", x.stripFor(99), 0);
        x.want(1, 1, 9);
        due.is("one", x.stripFor(9), 20);
        x.set(0, 5);
        due.is("at least 20", x.stripFor(9), 20);
        x.set(0, 60);
        due.is("one of 60", x.stripFor(9), 60);
        x.set(1, 1);
        due.is("16 of 60 and 15 of 1", x.stripFor(0), 975);
        x.set(1, 3);
        due.is("longer than 1000", x.stripFor(0), -4);
        x.set(0, 50);
        x.floor(6, 7);
        x.set(1, 5);
        due.is("20 sizes and 19 losses", x.stripFor(50), -4);
        x.set(1, 0);
        due.is("just 1000", x.stripFor(50), 1000);
        due.is("stripFor(-1)", x.stripFor(-1), -1);
        due.is("stripFor(100)", x.stripFor(100), -1);
        stripForIsEnough();
    }

    /** The strip that it tells is just long enough. */
    private static void stripForIsEnough() {
        MosaicFloor x = new MosaicFloor();
        int length = x.stripFor(50);
        x.strip(length - 1, 50);
        due.is("a millimetre less", x.lacks(50), 1);
        x.undo();
        x.strip(length, 50);
        due.is("just enough", x.lacks(50), 0);
        due.is("none lacks any more", x.stripFor(50), 0);
    }

    private static void ifLaidTells() {
        MosaicFloor x = new MosaicFloor();
        due.is("no stone", x.ifLaid(), 0);
        x.strip(42, 5);
        due.is("two of the border", x.ifLaid(), 10);
        x.lay(1, 1);
        due.is("one of the field is laid", x.ifLaid(), 45 + 5);
        x.strip(1000, 40);
        due.is("all", x.ifLaid(), 45 + 5 + 15 * 40 + 7 * 10);
        due.is("layAll", x.layAll(), 23);
        due.is("the sum", x.count(7), 45 + 5 + 15 * 40 + 7 * 10);
        due.is("ifLaid then", x.ifLaid(), x.count(7));
        x = new MosaicFloor();
        x.strip(64, 9);
        x.flaw(0, 50);
        x.flaw(0, 30);
        due.is("one good one of three", x.ifLaid(), 9);
    }

    private static void ifLaidChangesNothing() {
        MosaicFloor x = Due.withPattern("10,20", 1, 3, 3);
        x.strip(64, 12);
        x.strip(100, 40);
        x.flaw(0, 0);
        x.cut(1);
        x.lay(1, 1);
        x.lift(1, 1);
        List<Integer> before = Due.look(x);
        int told = x.ifLaid();
        due.same("the floor", Due.look(x), before);
        x.layAll();
        due.is("told ahead", x.count(7), told);
        x.undo();
        due.is("told again", x.ifLaid(), told);
    }
}
