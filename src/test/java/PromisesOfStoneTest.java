import java.util.List;

/** The sentences of the promises 11 to 22 that name a boundary, each with a test of its own. */
final class PromisesOfStoneTest {
    private static final Due due = new Due("PromisesOfStoneTest");

    public static void main(String[] args) {
        stripTellsItsNumber();
        stripIsRefused();
        flawIsInWhatIsLeft();
        flawTellsHowMany();
        flawIsInvalid();
        flawIsNotPossible();
        flawsReachTheLimit();
        cutTellsGoodOrBroken();
        cutIsRefused();
        stripOfTells();
        stripOfTellsAhead();
        stripOfIsRefused();
        layTellsTheShade();
        layIsRefused();
        layAllGoesInOrder();
        layAllEndsWithTheStone();
        layAllTellsHowMany();
        liftTellsHandOrBroken();
        liftIsRefused();
        nearestTellsWhatLayDoes();
        nearestIsRefused();
        nearestChangesNothing();
        readyCountsHandAndStrips();
        readyIsRefused();
        lacksCountsEmptyCells();
        lacksIsAtLeast0();
        lacksIsRefused();
        stripForIsJustEnough();
        stripForIsAtLeast20();
        stripForNone();
        stripForIsRefused();
        stripForIsTooLong();
        ifLaidIsTheSum();
        ifLaidIsOfLaidCellsAlone();
        ifLaidChangesNothing();
        due.end();
    }

    // ---- promise 11

    private static void stripTellsItsNumber() {
        due.by("Promise 11: A strip comes. [..] Returns its number");
        MosaicFloor x = new MosaicFloor();
        for (int i = 0; i < 10; i++) {
            due.is("strip", x.strip(20 + 100 * i, 99 - i), i);
            due.is("strips", x.count(9), i + 1);
            int[] told = {20 + 100 * i, 99 - i, 20 + 100 * i, 0};
            for (int what = 0; what < told.length; what++) {
                due.is("stripOf(" + i + ", " + what + ")", x.stripOf(i, what), told[what]);
            }
        }
        x.undo();
        x.undo();
        due.is("the number of one that was undone", x.strip(50, 1), 8);
        x.flaw(8, 5);
        x.cut(8);
        x.undo();
        x.undo();
        x.undo();
        due.is("the number again", x.strip(60, 1), 8);
        due.is("it is whole", x.stripOf(8, 2), 60);
        due.is("it has no flaws of the one that was undone", x.stripOf(8, 3), 0);
        due.is("none was cut off it", x.stripOf(8, 6), 0);
    }

    private static void stripIsRefused() {
        due.by("Promise 11: INVALID_ARGUMENT if an argument is out of range; LIMIT_REACHED if there are 10");
        MosaicFloor x = new MosaicFloor();
        due.is("strip(19, 0)", x.strip(19, 0), -1);
        due.is("strip(1001, 0)", x.strip(1001, 0), -1);
        due.is("strip(20, -1)", x.strip(20, -1), -1);
        due.is("strip(20, 100)", x.strip(20, 100), -1);
        due.is("strip(20, 0)", x.strip(20, 0), 0);
        due.is("strip(1000, 99)", x.strip(1000, 99), 1);
        for (int i = 2; i < 10; i++) {
            due.is("strip " + i, x.strip(500, 50), i);
        }
        due.is("an eleventh", x.strip(500, 50), -3);
        due.is("an eleventh that is wrong", x.strip(19, 50), -1);
        x.undo();
        due.is("the tenth once more", x.strip(500, 50), 9);
        due.is("an eleventh once more", x.strip(500, 50), -3);
    }

    // ---- promise 12

    private static void flawIsInWhatIsLeft() {
        due.by("Promise 12: Marks a flaw in what is left of a strip.");
        MosaicFloor x = Due.withStrips(64, 5);
        due.is("the first place", x.flaw(0, 0), 1);
        due.is("the last place", x.flaw(0, 63), 2);
        due.is("good ones", x.stripOf(0, 5), 1);
        x.cut(0);
        due.is("the last place of the saw", x.flaw(0, 21), -2);
        due.is("the first place that is left", x.flaw(0, 22), 3);
        due.is("good ones", x.stripOf(0, 5), 0);
        x.cut(0);
        x.cut(0);
        due.is("nothing is left", x.flaw(0, 62), -2);
    }

    private static void flawTellsHowMany() {
        due.by("Promise 12: Returns how many flaws it has then, those in parts that are cut off too");
        MosaicFloor x = Due.withStrips(200, 5, 6);
        due.is("one", x.flaw(0, 3), 1);
        due.is("two", x.flaw(0, 21), 2);
        x.cut(0);
        due.is("with two of what is cut off", x.flaw(0, 100), 3);
        x.cut(0);
        due.is("four", x.flaw(0, 101), 4);
        due.is("told of the strip", x.stripOf(0, 3), 4);
        due.is("of another one", x.flaw(1, 100), 1);
    }

    private static void flawIsInvalid() {
        due.by("Promise 12: INVALID_ARGUMENT if there is no such strip or place is out of range");
        MosaicFloor x = new MosaicFloor();
        due.is("no strip at all", x.flaw(0, 0), -1);
        x.strip(1000, 5);
        int[] strips = {-1, 1, 10, Integer.MIN_VALUE, Integer.MAX_VALUE};
        for (int strip : strips) {
            due.is("flaw(" + strip + ", 0)", x.flaw(strip, 0), -1);
        }
        int[] places = {-1, 1000, 1001, Integer.MIN_VALUE, Integer.MAX_VALUE};
        for (int place : places) {
            due.is("flaw(0, " + place + ")", x.flaw(0, place), -1);
        }
        due.is("flaw(0, 0)", x.flaw(0, 0), 1);
        due.is("flaw(0, 999)", x.flaw(0, 999), 2);
    }

    private static void flawIsNotPossible() {
        due.by("Promise 12: NOT_POSSIBLE if the place is beyond the strip, cut off already, or has a flaw");
        MosaicFloor x = Due.withStrips(100, 5);
        due.is("behind its end", x.flaw(0, 100), -2);
        due.is("far behind its end", x.flaw(0, 999), -2);
        due.is("at its end", x.flaw(0, 99), 1);
        due.is("there again", x.flaw(0, 99), -2);
        x.cut(0);
        due.is("the first place that is cut off", x.flaw(0, 0), -2);
        due.is("the last place of the tessera", x.flaw(0, 19), -2);
        due.is("the first place of the saw", x.flaw(0, 20), -2);
        due.is("the first place that is left", x.flaw(0, 22), 2);
        due.is("there again", x.flaw(0, 22), -2);
        x.cut(0);
        due.is("a flaw that is cut off", x.flaw(0, 22), -2);
    }

    private static void flawsReachTheLimit() {
        due.by("Promise 12: LIMIT_REACHED if it has 6");
        MosaicFloor x = Due.withStrips(1000, 5, 6);
        for (int i = 1; i <= 6; i++) {
            due.is("flaw " + i, x.flaw(0, 100 * i), i);
        }
        due.is("a seventh", x.flaw(0, 5), -3);
        due.is("a seventh where one is", x.flaw(0, 100), -2);
        due.is("a seventh out of range", x.flaw(0, -1), -1);
        due.is("the first of the other strip", x.flaw(1, 100), 1);
        x.undo();
        x.undo();
        due.is("the sixth again", x.flaw(0, 5), 6);
        due.is("a seventh again", x.flaw(0, 600), -3);
    }

    // ---- promise 13

    private static void cutTellsGoodOrBroken() {
        due.by("Promise 13: Cuts a tessera off a strip. [..] Returns 1 if it is good, 0 if it is broken");
        MosaicFloor x = Due.withStrips(108, 5, 6);
        x.flaw(0, 22);
        x.flaw(0, 64);
        x.flaw(0, 107);
        int[] good = {1, 0, 1, 1, 0};
        int[] left = {86, 64, 42, 20, 0};
        for (int i = 0; i < good.length; i++) {
            due.is("cut " + i, x.cut(0), good[i]);
            due.is("left", x.stripOf(0, 2), left[i]);
        }
        due.is("nothing is left", x.cut(0), -2);
        due.is("the other strip is whole", x.stripOf(1, 2), 108);
        due.is("at hand", x.count(10), 3);
        due.is("broken", x.count(11), 2);
    }

    private static void cutIsRefused() {
        due.by("Promise 13: INVALID_ARGUMENT; NOT_POSSIBLE if less than the size is left");
        MosaicFloor x = new MosaicFloor();
        due.is("no strip at all", x.cut(0), -1);
        x.strip(41, 5);
        x.strip(20, 5);
        int[] strips = {-1, 2, 10, Integer.MIN_VALUE, Integer.MAX_VALUE};
        for (int strip : strips) {
            due.is("cut(" + strip + ")", x.cut(strip), -1);
        }
        due.is("cut of 41", x.cut(0), 1);
        due.is("cut of 19", x.cut(0), -2);
        due.is("what is left", x.stripOf(0, 2), 19);
        x.set(0, 21);
        due.is("cut of 20 in the size 21", x.cut(1), -2);
        x.set(0, 20);
        due.is("cut of 20 in the size 20", x.cut(1), 1);
        due.is("cut of 0", x.cut(1), -2);
        x.set(0, 19);
        due.is("cut of 19 in the size 19", x.cut(0), 1);
    }

    // ---- promise 14

    private static void stripOfTells() {
        due.by("Promise 14: 0: its length; 1: its shade; 2: what is left of it; 3: its flaws; 4: tesserae that can still "
                + "be cut; 5: good ones among them; 6: good ones that were cut");
        MosaicFloor x = Due.withStrips(20, 0);
        x.strip(1000, 99);
        stripIs(x, 0, 20, 0, 20, 0, 1, 1, 0);
        stripIs(x, 1, 1000, 99, 1000, 0, 45, 45, 0);
        x.flaw(0, 19);
        x.flaw(1, 0);
        x.flaw(1, 19);
        x.flaw(1, 20);
        x.flaw(1, 999);
        stripIs(x, 0, 20, 0, 20, 1, 1, 0, 0);
        stripIs(x, 1, 1000, 99, 1000, 4, 45, 44, 0);
        x.cut(0);
        x.cut(1);
        x.cut(1);
        stripIs(x, 0, 20, 0, 0, 1, 0, 0, 0);
        stripIs(x, 1, 1000, 99, 956, 4, 43, 43, 1);
        x.lay(0, 0);
        x.lay(1, 1);
        stripIs(x, 1, 1000, 99, 934, 4, 42, 42, 2);
        stripIs(x, 0, 20, 0, 0, 1, 0, 0, 0);
        x.lift(0, 0);
        x.lift(1, 1);
        x.set(0, 60);
        stripIs(x, 1, 1000, 99, 934, 4, 15, 15, 2);
        x.set(0, 54);
        x.set(1, 1);
        stripIs(x, 1, 1000, 99, 934, 4, 17, 16, 2);
        due.is("a strip of one tessera", x.strip(54, 7), 2);
        x.cut(2);
        x.lay(2, 1);
        due.is("a good one that is laid was cut", x.stripOf(2, 6), 1);
    }

    private static void stripIs(MosaicFloor x, int strip, int... told) {
        for (int what = 0; what < told.length; what++) {
            due.is("stripOf(" + strip + ", " + what + ")", x.stripOf(strip, what), told[what]);
        }
    }

    private static void stripOfTellsAhead() {
        due.by("Promise 14: 4: tesserae that can still be cut; 5: good ones among them");
        int[][] settings = {{5, 0}, {5, 5}, {20, 2}, {60, 0}, {60, 5}, {21, 1}, {33, 3}};
        int[] lengths = {20, 42, 60, 61, 125, 1000};
        for (int[] setting : settings) {
            MosaicFloor x = new MosaicFloor();
            x.set(0, setting[0]);
            x.set(1, setting[1]);
            for (int i = 0; i < lengths.length; i++) {
                x.strip(lengths[i], i);
                x.flaw(i, 0);
                x.flaw(i, lengths[i] - 1);
                aheadIsWhatIsCut(x, i);
            }
        }
    }

    /** Only the first 30 are cut, so that there are less than 512 calls. */
    private static void aheadIsWhatIsCut(MosaicFloor x, int strip) {
        int all = x.stripOf(strip, 4);
        int good = x.stripOf(strip, 5);
        int cut = 0;
        int goodCut = 0;
        while (cut < 30 && x.cut(strip) >= 0) {
            cut++;
        }
        goodCut = x.stripOf(strip, 6);
        due.is("can be cut of strip " + strip, all, cut + x.stripOf(strip, 4));
        due.is("good ones of strip " + strip, good, goodCut + x.stripOf(strip, 5));
        due.is("to the end or 30", x.stripOf(strip, 2) < x.count(15) || cut == 30 ? 1 : 0, 1);
    }

    private static void stripOfIsRefused() {
        due.by("Promise 14: Returns the number; INVALID_ARGUMENT if an argument is out of range");
        MosaicFloor x = new MosaicFloor();
        for (int what = 0; what <= 6; what++) {
            due.is("of no strip", x.stripOf(0, what), -1);
        }
        x.strip(100, 5);
        int[] wrong = {-1, 7, 8, Integer.MIN_VALUE, Integer.MAX_VALUE};
        for (int value : wrong) {
            due.is("stripOf(0, " + value + ")", x.stripOf(0, value), -1);
            due.is("stripOf(" + value + ", 0)", x.stripOf(value, 0), -1);
        }
        due.is("stripOf(1, 0)", x.stripOf(1, 0), -1);
    }

    // ---- promise 15

    private static void layTellsTheShade() {
        due.by("Promise 15: Lays a cell. [..] Returns the shade that is laid");
        MosaicFloor x = Due.withStrips(42, 0, 99, 52);
        due.is("a corner", x.lay(0, 0), 0);
        due.is("the last cell", x.lay(5, 3), 0);
        due.is("of the border, no 0 is left", x.lay(5, 0), 52);
        due.is("of the field", x.lay(1, 1), 52);
        due.is("of the field, no 52 is left", x.lay(4, 2), 99);
        due.is("what is laid", x.cell(4, 2, 1), 99);
        due.is("what is laid first", x.cell(0, 0, 1), 0);
        due.is("laid cells", x.count(6), 5);
    }

    private static void layIsRefused() {
        due.by("Promise 15: INVALID_ARGUMENT; NOT_POSSIBLE if it is laid already, or no shade is at hand or can be cut");
        MosaicFloor x = new MosaicFloor();
        due.is("no stone", x.lay(0, 0), -2);
        x.strip(40, 50);
        x.flaw(0, 10);
        due.is("no good one and a rest of 18", x.lay(0, 0), -2);
        due.is("the strip is not cut", x.stripOf(0, 2), 40);
        x.strip(20, 50);
        int[][] wrong = {{-1, 0}, {6, 0}, {0, -1}, {0, 4}};
        for (int[] w : wrong) {
            due.is("lay(" + w[0] + ", " + w[1] + ")", x.lay(w[0], w[1]), -1);
        }
        due.is("the last stone", x.lay(0, 0), 50);
        due.is("laid already", x.lay(0, 0), -2);
        due.is("no stone any more", x.lay(1, 1), -2);
        x.strip(20, 50);
        due.is("laid already, with stone", x.lay(0, 0), -2);
        due.is("another cell, with stone", x.lay(1, 1), 50);
        x.lift(1, 1);
        due.is("with one at hand", x.lay(2, 2), 50);
    }

    // ---- promise 16

    private static void layAllGoesInOrder() {
        due.by("Promise 16: Lays all empty cells, the border in the order of its numbers, then the field row by row, "
                + "each row from the left");
        MosaicFloor x = new MosaicFloor();
        x.floor(5, 5);
        for (int i = 0; i < 10; i++) {
            x.strip(20, i);
        }
        due.is("layAll of 10", x.layAll(), 10);
        due.same("along the border", Due.laid(x), List.of(
                0, 1, 2, 3, 4,
                -4, -4, -4, -4, 5,
                -4, -4, -4, -4, 6,
                -4, -4, -4, -4, 7,
                -4, -4, -4, 9, 8));
        x = new MosaicFloor();
        x.floor(4, 5);
        x.set(0, 5);
        x.set(1, 0);
        x.strip(70, 0);
        for (int i = 0; i < 6; i++) {
            x.strip(20, 51 + i);
            x.flaw(i + 1, 5);
            x.flaw(i + 1, 10);
            x.flaw(i + 1, 15);
        }
        due.is("layAll of 20", x.layAll(), 20);
        due.same("the field behind the border", Due.laid(x), List.of(
                0, 0, 0, 0,
                0, 51, 52, 0,
                0, 53, 54, 0,
                0, 55, 56, 0,
                0, 0, 0, 0));
    }

    private static void layAllEndsWithTheStone() {
        due.by("Promise 16: as long as there is a shade at hand or that can be cut");
        for (int stones = 0; stones <= 10; stones++) {
            MosaicFloor x = new MosaicFloor();
            x.floor(3, 3);
            for (int i = 0; i < stones; i++) {
                x.strip(20, 50);
                if (i % 2 == 0) {
                    x.cut(i);
                }
            }
            due.is("layAll of " + stones, x.layAll(), Math.min(stones, 9));
            due.is("laid", x.count(6), Math.min(stones, 9));
            due.is("left of strips", x.count(21), stones == 10 ? 20 : 0);
            due.is("at hand", x.count(10), 0);
        }
        MosaicFloor x = new MosaicFloor();
        x.strip(64, 50);
        x.flaw(0, 0);
        x.flaw(0, 43);
        x.flaw(0, 45);
        due.is("one good one amid a strip", x.layAll(), 1);
        due.is("what is behind it stays", x.stripOf(0, 2), 20);
    }

    private static void layAllTellsHowMany() {
        due.by("Promise 16: Returns how many are laid by this.");
        MosaicFloor x = Due.withStrips(1000, 50);
        x.lay(0, 0);
        x.lay(1, 1);
        due.is("all but two", x.layAll(), 22);
        due.is("none", x.layAll(), 0);
        x.lift(2, 2);
        due.is("one", x.layAll(), 1);
        due.is("laid", x.count(6), 24);
        due.is("without strips", new MosaicFloor().layAll(), 0);
        x = Due.withStrips(1000, 1, 2, 3, 4);
        x.floor(12, 12);
        due.is("the greatest floor", x.layAll(), 144);
    }

    // ---- promise 17

    private static void liftTellsHandOrBroken() {
        due.by("Promise 17: Lifts a tessera. [..] Returns 1 if it comes back to hand, 0 if it is broken");
        MosaicFloor x = Due.withStrips(1000, 50);
        x.floor(4, 3);
        x.layAll();
        for (int i = 1; i <= 12; i++) {
            int column = (i - 1) % 4;
            int row = (i - 1) / 4;
            due.is("lift " + i, x.lift(column, row), i % 3 == 0 ? 0 : 1);
            due.is("the cell is empty", x.cell(column, row, 1), -4);
            due.is("at hand", x.count(10), i - i / 3);
            due.is("broken", x.count(11), i / 3);
            due.is("lifted", x.count(12), i);
            due.is("laid", x.count(6), 12 - i);
        }
        x = Due.withStrips(20, 0, 99);
        x.lay(0, 0);
        x.lay(1, 1);
        x.lift(1, 1);
        x.lift(0, 0);
        due.is("back to hand with its shade", x.ready(0), 1);
        due.is("the other one too", x.ready(99), 1);
    }

    private static void liftIsRefused() {
        due.by("Promise 17: INVALID_ARGUMENT; NOT_POSSIBLE if the cell is empty");
        MosaicFloor x = Due.withStrips(100, 50);
        due.is("an empty cell", x.lift(0, 0), -2);
        x.lay(0, 0);
        int[][] wrong = {{-1, 0}, {6, 0}, {0, -1}, {0, 4}};
        for (int[] w : wrong) {
            due.is("lift(" + w[0] + ", " + w[1] + ")", x.lift(w[0], w[1]), -1);
        }
        due.is("an empty cell beside it", x.lift(1, 0), -2);
        due.is("lifted", x.count(12), 0);
        due.is("a laid cell", x.lift(0, 0), 1);
        due.is("again", x.lift(0, 0), -2);
        due.is("lifted", x.count(12), 1);
    }

    // ---- promise 18

    private static void nearestTellsWhatLayDoes() {
        due.by("Promise 18: Returns the shade that would be laid in a cell.");
        MosaicFloor x = Due.withStrips(42, 0, 48, 52, 99);
        x.want(2, 1, 0);
        x.want(3, 1, 99);
        x.cut(2);
        int[][] cells = {{2, 1}, {3, 1}, {1, 1}, {0, 0}, {4, 1}, {5, 3}, {1, 2}, {2, 2}};
        int[] shades = {0, 99, 48, 0, 48, 52, 52, 99};
        for (int i = 0; i < cells.length; i++) {
            due.is("nearest " + i, x.nearest(cells[i][0], cells[i][1]), shades[i]);
            due.is("lay " + i, x.lay(cells[i][0], cells[i][1]), shades[i]);
        }
    }

    private static void nearestIsRefused() {
        due.by("Promise 18: Returns the shade; INVALID_ARGUMENT; NOT_FOUND if there is none, or the cell is laid");
        MosaicFloor x = new MosaicFloor();
        due.is("no stone", x.nearest(0, 0), -4);
        int[][] wrong = {{-1, 0}, {6, 0}, {0, -1}, {0, 4}, {Integer.MIN_VALUE, 0}, {0, Integer.MAX_VALUE}};
        for (int[] w : wrong) {
            due.is("nearest(" + w[0] + ", " + w[1] + ")", x.nearest(w[0], w[1]), -1);
        }
        x.strip(42, 0);
        due.is("stone", x.nearest(1, 1), 0);
        x.lay(1, 1);
        due.is("the cell is laid", x.nearest(1, 1), -4);
        due.is("another one is not", x.nearest(0, 0), 0);
        x.lay(0, 0);
        due.is("no stone any more", x.nearest(2, 1), -4);
        x.lift(0, 0);
        due.is("one at hand", x.nearest(2, 1), 0);
        x.set(1, 0);
        x.strip(20, 70);
        x.flaw(1, 0);
        x.lay(0, 0);
        due.is("a strip without a good one", x.nearest(2, 1), -4);
    }

    private static void nearestChangesNothing() {
        due.by("Promise 18: Returns the shade that would be laid in a cell. Nothing changes.");
        MosaicFloor x = Due.withStrips(64, 50, 60);
        x.floor(3, 3);
        x.flaw(0, 0);
        x.cut(1);
        List<Integer> before = Due.look(x);
        due.is("a strip would be cut", x.nearest(1, 1), 50);
        due.is("again", x.nearest(0, 0), 50);
        due.same("all behind it", Due.look(x), before);
        due.is("states", x.count(13), 5);
    }

    // ---- promise 19

    private static void readyCountsHandAndStrips() {
        due.by("Promise 19: Returns how many good tesserae there are of a shade, at hand and those that can still be cut.");
        MosaicFloor x = Due.withStrips(64, 0, 99, 0);
        due.is("of 0", x.ready(0), 6);
        due.is("of 99", x.ready(99), 3);
        due.is("of 1", x.ready(1), 0);
        x.flaw(0, 0);
        due.is("a broken one less", x.ready(0), 5);
        x.cut(0);
        due.is("it is cut", x.ready(0), 5);
        x.cut(0);
        due.is("one is at hand", x.ready(0), 5);
        x.lay(0, 0);
        due.is("one is laid", x.ready(0), 4);
        x.lift(0, 0);
        due.is("it is lifted", x.ready(0), 5);
        x.set(0, 60);
        due.is("one of each strip that is long enough", x.ready(0), 1);
        x.set(0, 21);
        due.is("in another size", x.ready(0), 2);
    }

    private static void readyIsRefused() {
        due.by("Promise 19: Returns the number; INVALID_ARGUMENT if shade is out of range.");
        MosaicFloor x = Due.withStrips(20, 0, 99);
        due.is("ready(-1)", x.ready(-1), -1);
        due.is("ready(0)", x.ready(0), 1);
        due.is("ready(99)", x.ready(99), 1);
        due.is("ready(100)", x.ready(100), -1);
        due.is("ready of the least", x.ready(Integer.MIN_VALUE), -1);
        due.is("ready of the greatest", x.ready(Integer.MAX_VALUE), -1);
    }

    // ---- promise 20

    private static void lacksCountsEmptyCells() {
        due.by("Promise 20: Returns how many empty cells want a shade, less the good tesserae that are ready of it.");
        MosaicFloor x = Due.withPattern("50,0", 0, 12, 12);
        due.is("of both border and field", x.lacks(50), 122);
        due.is("of the border", x.lacks(0), 22);
        x.want(10, 10, 99);
        due.is("of one cell", x.lacks(99), 1);
        due.is("one less", x.lacks(50), 121);
        x.strip(20, 99);
        due.is("one can be cut", x.lacks(99), 0);
        x.cut(0);
        due.is("one is at hand", x.lacks(99), 0);
        x.lay(1, 1);
        due.is("it is laid elsewhere", x.lacks(99), 1);
        due.is("the cell wants nothing more", x.lacks(50), 120);
        x.strip(42, 50);
        due.is("two can be cut", x.lacks(50), 118);
        x.flaw(1, 0);
        due.is("one would be broken", x.lacks(50), 119);
        due.is("of a shade that none wants", x.lacks(7), 0);
    }

    private static void lacksIsAtLeast0() {
        due.by("Promise 20: Returns the number, at least 0");
        MosaicFloor x = new MosaicFloor();
        x.strip(174, 50);
        due.is("just enough", x.lacks(50), 0);
        x.undo();
        x.strip(173, 50);
        due.is("one lacks", x.lacks(50), 1);
        x.strip(1000, 50);
        due.is("more than enough", x.lacks(50), 0);
        x.strip(1000, 7);
        due.is("of a shade that none wants", x.lacks(7), 0);
    }

    private static void lacksIsRefused() {
        due.by("Promise 20: Returns the number, at least 0; INVALID_ARGUMENT if shade is out of range.");
        MosaicFloor x = new MosaicFloor();
        due.is("lacks(-1)", x.lacks(-1), -1);
        due.is("lacks(0)", x.lacks(0), 16);
        due.is("lacks(99)", x.lacks(99), 0);
        due.is("lacks(100)", x.lacks(100), -1);
        due.is("lacks of the least", x.lacks(Integer.MIN_VALUE), -1);
        due.is("lacks of the greatest", x.lacks(Integer.MAX_VALUE), -1);
    }

    // ---- promise 21

    private static void stripForIsJustEnough() {
        due.by("Promise 21: Returns the least length of a new strip without flaws from which as many tesserae can be cut "
                + "as lack of a shade (for n of them n sizes and n - 1 losses).");
        int[][] settings = {{20, 2, 350}, {5, 0, 80}, {60, 2, 990}, {60, 0, 960}, {5, 5, 155}};
        for (int[] setting : settings) {
            MosaicFloor x = new MosaicFloor();
            x.set(0, setting[0]);
            x.set(1, setting[1]);
            due.is("for 16 in " + setting[0] + " and " + setting[1], x.stripFor(0), setting[2]);
            x.strip(setting[2] - 1, 0);
            due.is("a millimetre less leaves one", x.lacks(0), 1);
            x.undo();
            x.strip(setting[2], 0);
            due.is("it is enough", x.lacks(0), 0);
        }
        MosaicFloor x = new MosaicFloor();
        x.want(1, 1, 9);
        x.want(2, 1, 9);
        due.is("for two", x.stripFor(9), 42);
        x.strip(20, 9);
        due.is("for one", x.stripFor(9), 20);
    }

    private static void stripForIsAtLeast20() {
        due.by("Promise 21: Returns the length, at least 20");
        MosaicFloor x = new MosaicFloor();
        x.want(1, 1, 9);
        int[] sizes = {5, 19, 20, 21};
        int[] lengths = {20, 20, 20, 21};
        for (int i = 0; i < sizes.length; i++) {
            x.set(0, sizes[i]);
            due.is("one of " + sizes[i], x.stripFor(9), lengths[i]);
        }
        x.set(0, 5);
        x.want(2, 1, 9);
        x.want(3, 1, 9);
        due.is("three of 5 and two losses of 2", x.stripFor(9), 20);
        x.set(1, 3);
        due.is("three of 5 and two losses of 3", x.stripFor(9), 21);
    }

    private static void stripForNone() {
        due.by("Promise 21: or 0 if none lacks");
        MosaicFloor x = new MosaicFloor();
        due.is("none wants it", x.stripFor(7), 0);
        x.strip(174, 50);
        due.is("just enough is ready", x.stripFor(50), 0);
        x.strip(1000, 50);
        due.is("more than enough is ready", x.stripFor(50), 0);
        x.layAll();
        due.is("all is laid", x.stripFor(0), 0);
    }

    private static void stripForIsRefused() {
        due.by("Promise 21: INVALID_ARGUMENT if shade is out of range");
        MosaicFloor x = new MosaicFloor();
        due.is("stripFor(-1)", x.stripFor(-1), -1);
        due.is("stripFor(0)", x.stripFor(0), 350);
        due.is("stripFor(99)", x.stripFor(99), 0);
        due.is("stripFor(100)", x.stripFor(100), -1);
        due.is("stripFor of the least", x.stripFor(Integer.MIN_VALUE), -1);
        due.is("stripFor of the greatest", x.stripFor(Integer.MAX_VALUE), -1);
    }

    private static void stripForIsTooLong() {
        due.by("Promise 21: NOT_FOUND if it would be longer than 1000");
        MosaicFloor x = new MosaicFloor();
        x.want(1, 1, 0);
        x.set(0, 56);
        x.set(1, 3);
        due.is("17 of 56 and 16 losses of 3", x.stripFor(0), 1000);
        x.set(0, 57);
        x.set(1, 2);
        due.is("17 of 57 and 16 losses of 2", x.stripFor(0), -4);
        x.strip(57, 0);
        due.is("one less", x.stripFor(0), 942);
        x.floor(7, 6);
        x.set(0, 50);
        x.set(1, 0);
        due.is("20 of 50", x.stripFor(50), 1000);
        x.set(0, 51);
        due.is("20 of 51", x.stripFor(50), -4);
        x.floor(12, 12);
        x.set(0, 60);
        x.set(1, 5);
        due.is("100 of 60", x.stripFor(50), -4);
        due.is("a shade that none wants", x.stripFor(51), 0);
    }

    // ---- promise 22

    private static void ifLaidIsTheSum() {
        due.by("Promise 22: Returns the sum of the differences that all cells would have behind layAll().");
        MosaicFloor x = Due.withStrips(64, 0, 10, 49, 60);
        x.lay(1, 1);
        x.cut(3);
        int told = x.ifLaid();
        x.layAll();
        due.is("the sum behind layAll", x.count(7), told);
        due.is("of all that is laid", x.ifLaid(), told);
        x.undo();
        due.is("again", x.ifLaid(), told);
        x = Due.withStrips(86, 7);
        x.flaw(0, 30);
        x.flaw(0, 43);
        x.flaw(0, 50);
        due.is("two good ones of four", x.ifLaid(), 14);
        x = Due.withStrips(1000, 50);
        x.floor(12, 12);
        x.set(0, 5);
        x.set(1, 0);
        due.is("of the greatest floor", x.ifLaid(), 44 * 50);
        x.want(1, 1, 0);
        x.want(10, 10, 99);
        due.is("with two others", x.ifLaid(), 44 * 50 + 50 + 49);
        x = Due.withStrips(20, 99);
        x.lay(1, 1);
        due.is("of what was laid before", x.ifLaid(), 49);
    }

    private static void ifLaidIsOfLaidCellsAlone() {
        due.by("Promise 22: Returns the sum, of laid cells alone.");
        due.is("without stone", new MosaicFloor().ifLaid(), 0);
        MosaicFloor x = Due.withStrips(20, 99);
        due.is("one cell of the border", x.ifLaid(), 99);
        x.strip(20, 30);
        due.is("two cells of the border", x.ifLaid(), 30 + 99);
        x.lay(1, 1);
        due.is("one of the field and one of the border", x.ifLaid(), 20 + 99);
        x.lay(2, 1);
        due.is("no stone any more", x.ifLaid(), 20 + 49);
    }

    private static void ifLaidChangesNothing() {
        due.by("Promise 22: Returns the sum of the differences that all cells would have behind layAll(). Nothing "
                + "changes.");
        MosaicFloor x = Due.withPattern("10,60", 1, 3, 3);
        x.strip(64, 12);
        x.strip(64, 58);
        x.flaw(0, 0);
        x.cut(1);
        x.lay(1, 1);
        x.lift(1, 1);
        x.type(',');
        List<Integer> before = Due.look(x);
        due.is("ifLaid", x.ifLaid(), 2 + 2 + 2 + 2 + 48);
        due.same("all behind it", Due.look(x), before);
        due.is("states", x.count(13), 5);
        due.is("text", x.fault(), 6);
        due.is("the third one is still to be lifted", x.lay(0, 0) + x.lift(0, 0) + x.lay(0, 0) + x.lift(0, 0), 12 + 1 + 12);
        due.is("lifted", x.count(12), 3);
    }
}
