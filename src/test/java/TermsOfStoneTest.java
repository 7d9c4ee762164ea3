import java.util.List;

/** The sentences of the document's "Strips", "Laying" and "Accounts" that name a boundary, each with a test of its own. */
final class TermsOfStoneTest {
    private static final Due due = new Due("TermsOfStoneTest");

    public static void main(String[] args) {
        tenStripsAtMost();
        stripIs20To1000();
        sixFlawsAtMost();
        flawsLieInTheStrip();
        noTwoFlawsAtOnePlace();
        sizeIs5To60();
        lossIs0To5();
        sawTakesWhatIsLeft();
        sizeMustBeLeft();
        flawInItsPartBreaks();
        flawInTheSawnPartDoesNothing();
        restOfAStripStays();
        cutOnesAreAtHandUntilLaid();
        shadesAloneAreKnown();
        nearestShadeIsTaken();
        lowerOfTwoAsNearIsTaken();
        shadesOfStripsWithoutGoodOnesAreNotTaken();
        atHandGoesFirst();
        firstStripThatGivesIsCut();
        onlyEmptyCellsAreLaid();
        everyThirdLiftedIsBroken();
        changesOnlyWhileNoneIsLaid();
        sizeThrowsAway();
        accountsOfNothing();
        accountsOfEachKind();
        accountsKeepOldSizes();
        accountsAddUp();
        due.end();
    }

    private static MosaicFloor withSize(int size, int loss) {
        MosaicFloor x = new MosaicFloor();
        x.set(0, size);
        x.set(1, loss);
        return x;
    }

    private static void tenStripsAtMost() {
        due.by("There are at most 10 strips, numbered from 0 in the order in which they came.");
        MosaicFloor x = new MosaicFloor();
        for (int i = 0; i < 10; i++) {
            due.is("strip " + i, x.strip(20 + i, 10 * i), i);
            due.is("strips", x.count(9), i + 1);
        }
        due.is("an eleventh one", x.strip(20, 0), -3);
        due.is("strips behind it", x.count(9), 10);
        for (int i = 0; i < 10; i++) {
            due.is("length of " + i, x.stripOf(i, 0), 20 + i);
            due.is("shade of " + i, x.stripOf(i, 1), 10 * i);
        }
        due.is("no strip 10", x.stripOf(10, 0), -1);
        due.is("cut(0)", x.cut(0), 1);
        due.is("a strip that is used up counts too", x.strip(20, 0), -3);
    }

    private static void stripIs20To1000() {
        due.by("A strip has a length (20 to 1000)");
        MosaicFloor x = new MosaicFloor();
        int[] wrong = {Integer.MIN_VALUE, -20, -1, 0, 1, 19, 1001, 65536 + 100, Integer.MAX_VALUE};
        for (int length : wrong) {
            due.is("strip(" + length + ", 1)", x.strip(length, 1), -1);
        }
        due.is("no strip", x.count(9), 0);
        due.is("strip(20, 1)", x.strip(20, 1), 0);
        due.is("strip(1000, 1)", x.strip(1000, 1), 1);
        due.is("the short one", x.stripOf(0, 0), 20);
        due.is("the long one", x.stripOf(1, 0), 1000);
    }

    private static void sixFlawsAtMost() {
        due.by("at most 6 flaws");
        MosaicFloor x = Due.withStrips(200, 1, 2);
        for (int i = 1; i <= 6; i++) {
            due.is("flaw " + i, x.flaw(0, 30 * i), i);
        }
        due.is("a seventh one", x.flaw(0, 199), -3);
        due.is("flaws", x.stripOf(0, 3), 6);
        due.is("it breaks nothing", x.stripOf(0, 5), 3);
        due.is("one of another strip", x.flaw(1, 199), 1);
        x.cut(0);
        x.cut(0);
        due.is("a seventh one, with one of six cut off", x.flaw(0, 199), -3);
    }

    private static void flawsLieInTheStrip() {
        due.by("each at a place from 0 to its length - 1");
        MosaicFloor x = Due.withStrips(20, 1);
        x.strip(1000, 2);
        due.is("flaw(0, -1)", x.flaw(0, -1), -1);
        due.is("flaw(0, 20)", x.flaw(0, 20), -2);
        due.is("flaw(0, 19)", x.flaw(0, 19), 1);
        due.is("flaw(0, 0)", x.flaw(0, 0), 2);
        due.is("flaw(1, 1000)", x.flaw(1, 1000), -1);
        due.is("flaw(1, 999)", x.flaw(1, 999), 1);
        due.is("flaw(1, 0)", x.flaw(1, 0), 2);
    }

    private static void noTwoFlawsAtOnePlace() {
        due.by("no two at the same place");
        MosaicFloor x = Due.withStrips(100, 1, 1);
        due.is("flaw(0, 50)", x.flaw(0, 50), 1);
        due.is("flaw(0, 50) again", x.flaw(0, 50), -2);
        due.is("flaw(0, 49)", x.flaw(0, 49), 2);
        due.is("flaw(0, 51)", x.flaw(0, 51), 3);
        due.is("the first one again", x.flaw(0, 50), -2);
        due.is("the last one again", x.flaw(0, 51), -2);
        due.is("flaw(1, 50), of another strip", x.flaw(1, 50), 1);
        due.is("flaws", x.stripOf(0, 3), 3);
    }

    private static void sizeIs5To60() {
        due.by("A tessera takes the size (5 to 60, initially 20) off the beginning of what is left of a strip");
        MosaicFloor x = new MosaicFloor();
        due.is("the size at first", x.count(15), 20);
        x.set(1, 0);
        x.strip(100, 1);
        due.is("cut of 20", x.cut(0) + x.stripOf(0, 2), 1 + 80);
        int[] wrong = {Integer.MIN_VALUE, -5, 0, 4, 61, Integer.MAX_VALUE};
        for (int size : wrong) {
            due.is("set(0, " + size + ")", x.set(0, size), -1);
        }
        due.is("set(0, 60)", x.set(0, 60), 20);
        due.is("cut of 60", x.cut(0) + x.stripOf(0, 2), 1 + 20);
        due.is("set(0, 5)", x.set(0, 5), 60);
        due.is("cut of 5", x.cut(0) + x.stripOf(0, 2), 1 + 15);
        x.flaw(0, 85);
        due.is("the beginning of what is left", x.cut(0), 0);
    }

    private static void lossIs0To5() {
        due.by("and the saw takes the loss (0 to 5, initially 2) behind it");
        MosaicFloor x = new MosaicFloor();
        due.is("the loss at first", x.count(16), 2);
        x.strip(200, 1);
        due.is("cut with 2", x.cut(0) + x.stripOf(0, 2), 1 + 178);
        int[] wrong = {Integer.MIN_VALUE, -1, 6, Integer.MAX_VALUE};
        for (int loss : wrong) {
            due.is("set(1, " + loss + ")", x.set(1, loss), -1);
        }
        due.is("set(1, 0)", x.set(1, 0), 2);
        due.is("cut with 0", x.cut(0) + x.stripOf(0, 2), 1 + 158);
        due.is("set(1, 5)", x.set(1, 5), 0);
        due.is("cut with 5", x.cut(0) + x.stripOf(0, 2), 1 + 133);
        due.is("the loss in all", x.count(25), 7);
    }

    private static void sawTakesWhatIsLeft() {
        due.by("or what is left, if it is less");
        int[] lengths = {20, 21, 24, 25, 26};
        int[] sawn = {0, 1, 4, 5, 5};
        int[] left = {0, 0, 0, 0, 1};
        for (int i = 0; i < lengths.length; i++) {
            MosaicFloor x = withSize(20, 5);
            x.strip(lengths[i], 1);
            due.is("cut of " + lengths[i], x.cut(0), 1);
            due.is("loss of " + lengths[i], x.count(25), sawn[i]);
            due.is("left of " + lengths[i], x.stripOf(0, 2), left[i]);
        }
    }

    private static void sizeMustBeLeft() {
        due.by("It can be cut if at least the size is left.");
        MosaicFloor x = withSize(30, 0);
        x.strip(29, 1);
        x.strip(30, 2);
        x.strip(31, 3);
        x.strip(59, 4);
        x.strip(60, 5);
        int[] ahead = {0, 1, 1, 1, 2};
        for (int i = 0; i < ahead.length; i++) {
            due.is("told of strip " + i, x.stripOf(i, 4), ahead[i]);
            for (int cut = 0; cut < ahead[i]; cut++) {
                due.is("cut of strip " + i, x.cut(i), 1);
            }
            due.is("one more of strip " + i, x.cut(i), -2);
        }
    }

    private static void flawInItsPartBreaks() {
        due.by("It is broken if a flaw lies in its part of the strip [..], otherwise it is good.");
        int[] places = {0, 10, 19, 22, 41};
        for (int place : places) {
            MosaicFloor x = Due.withStrips(100, 1);
            x.flaw(0, place);
            boolean first = place < 20;
            due.is("good ones with a flaw at " + place, x.stripOf(0, 5), 3);
            due.is("the first with a flaw at " + place, x.cut(0), first ? 0 : 1);
            due.is("the second with a flaw at " + place, x.cut(0), first ? 1 : 0);
            due.is("the third with a flaw at " + place, x.cut(0), 1);
            due.is("broken ones", x.count(11), 1);
        }
    }

    private static void flawInTheSawnPartDoesNothing() {
        due.by("flaws in what the saw takes do nothing");
        int[] places = {20, 21, 42, 43, 64, 86, 87};
        for (int place : places) {
            MosaicFloor x = Due.withStrips(88, 1);
            due.is("flaw(0, " + place + ")", x.flaw(0, place), 1);
            due.is("good ones told", x.stripOf(0, 5), 4);
            due.is("cut", x.cut(0) + x.cut(0) + x.cut(0) + x.cut(0), 4);
            due.is("broken ones", x.count(11), 0);
        }
        MosaicFloor x = Due.withStrips(100, 1);
        x.set(1, 0);
        x.flaw(0, 20);
        due.is("without a loss it lies in the second one", x.cut(0) * 10 + x.cut(0), 10);
    }

    private static void restOfAStripStays() {
        due.by("A strip of which less than the size is left stays where it is.");
        MosaicFloor x = Due.withStrips(39, 7, 8);
        x.cut(0);
        due.is("cut of the rest", x.cut(0), -2);
        due.is("strips", x.count(9), 2);
        due.is("its shade", x.stripOf(0, 1), 7);
        due.is("its rest", x.stripOf(0, 2), 17);
        due.is("the next one keeps its number", x.stripOf(1, 1), 8);
        due.is("a new one has a new number", x.strip(50, 9), 2);
        x.set(0, 17);
        due.is("a less size can be cut", x.cut(0), 1);
        due.is("nothing is left", x.stripOf(0, 2), 0);
        due.is("strips, one of them used up", x.count(9), 3);
        due.is("its length", x.stripOf(0, 0), 39);
    }

    private static void cutOnesAreAtHandUntilLaid() {
        due.by("Good tesserae that are cut are at hand until they are laid");
        MosaicFloor x = Due.withStrips(200, 50);
        x.flaw(0, 0);
        due.is("a broken one", x.cut(0), 0);
        due.is("is not at hand", x.count(10), 0);
        due.is("good ones", x.cut(0) + x.cut(0), 2);
        due.is("are at hand", x.count(10), 2);
        x.floor(3, 3);
        due.is("on another floor too", x.count(10), 2);
        x.lay(1, 1);
        due.is("one is laid", x.count(10), 1);
        x.lay(0, 0);
        due.is("both are laid", x.count(10), 0);
        x.lay(1, 0);
        due.is("one that is cut to be laid", x.count(10), 0);
    }

    private static void shadesAloneAreKnown() {
        due.by("they are known by their shades only");
        MosaicFloor x = Due.withStrips(22, 50, 50, 51);
        x.cut(0);
        x.cut(1);
        x.cut(2);
        due.is("of two strips with one shade", x.ready(50), 2);
        due.is("of the other shade", x.ready(51), 1);
        due.is("at hand", x.count(10), 3);
        due.is("the first one", x.lay(1, 1), 50);
        due.is("the second one", x.lay(2, 1), 50);
        due.is("then the other shade", x.lay(3, 1), 51);
    }

    /** What is laid in a cell that wants the shade, if there are strips of the others. */
    private static int laid(int wanted, int... shades) {
        MosaicFloor x = Due.withStrips(20, shades);
        x.want(1, 1, wanted);
        due.is("nearest is the same", x.nearest(1, 1), x.lay(1, 1));
        return x.cell(1, 1, 1);
    }

    private static void nearestShadeIsTaken() {
        due.by("the shade is taken that is nearest to the one the cell wants");
        due.is("a higher one", laid(50, 48, 51, 47), 51);
        due.is("a lower one", laid(50, 52, 49, 53), 49);
        due.is("the same", laid(50, 49, 51, 50), 50);
        due.is("99 for 0", laid(0, 99), 99);
        due.is("0 for 99", laid(99, 0), 0);
        due.is("no way around from 99 to 0", laid(0, 99, 50), 50);
        due.is("nor from 0 to 99", laid(99, 0, 49), 49);
        MosaicFloor x = Due.withStrips(20, 40, 61);
        x.cut(1);
        due.is("of a strip rather than at hand", x.lay(1, 1), 40);
        x = Due.withStrips(20, 39, 60);
        x.cut(1);
        due.is("at hand rather than of a strip", x.lay(1, 1), 60);
        x = Due.withStrips(20, 40, 61, 39);
        x.cut(0);
        x.cut(1);
        x.cut(2);
        due.is("of those at hand", x.lay(1, 1), 40);
    }

    private static void lowerOfTwoAsNearIsTaken() {
        due.by("of two shades as near, the lower shade");
        due.is("the first strip", laid(50, 49, 51), 49);
        due.is("the second strip", laid(50, 51, 49), 49);
        due.is("0 rather than 98", laid(49, 98, 0), 0);
        MosaicFloor x = Due.withStrips(20, 51, 49);
        x.cut(0);
        due.is("of a strip, with the higher one at hand", x.lay(1, 1), 49);
        x = Due.withStrips(20, 51, 49);
        x.cut(1);
        due.is("at hand, with the higher one of a strip", x.lay(1, 1), 49);
        x = Due.withStrips(20, 51, 49);
        x.cut(0);
        x.cut(1);
        due.is("both at hand", x.lay(1, 1), 49);
    }

    private static void shadesOfStripsWithoutGoodOnesAreNotTaken() {
        due.by("among the shades at hand and those of strips that can still give a good tessera");
        MosaicFloor x = Due.withStrips(42, 50, 70);
        x.flaw(0, 0);
        due.is("the last one of the strip is good", x.nearest(1, 1), 50);
        x.flaw(0, 41);
        due.is("each one has a flaw", x.nearest(1, 1), 70);
        due.is("so the other is laid", x.lay(1, 1), 70);
        due.is("the strip is not cut", x.stripOf(0, 2), 42);
        x = Due.withStrips(20, 50);
        x.strip(30, 70);
        x.cut(0);
        x.lay(1, 1);
        due.is("the strip is used up, nothing is at hand", x.lay(2, 1), 70);
        due.is("nothing at all", x.lay(3, 1), -2);
        x = Due.withStrips(20, 70);
        x.set(0, 21);
        due.is("the strip is a millimetre too short", x.lay(1, 1), -2);
        x.set(0, 20);
        due.is("it is just long enough", x.lay(1, 1), 70);
    }

    private static void atHandGoesFirst() {
        due.by("If it is at hand, one is laid from there.");
        MosaicFloor x = Due.withStrips(100, 50, 50);
        x.cut(1);
        due.is("lay", x.lay(1, 1), 50);
        due.is("left of the first strip", x.stripOf(0, 2), 100);
        due.is("left of the second one", x.stripOf(1, 2), 78);
        due.is("at hand", x.count(10), 0);
        x.lift(1, 1);
        due.is("lay what was lifted", x.lay(2, 2), 50);
        due.is("nothing is cut", x.count(21), 178);
    }

    private static void firstStripThatGivesIsCut() {
        due.by("Otherwise, the first strip with this shade that can still give a good one is cut until there is a good "
                + "one");
        MosaicFloor x = Due.withStrips(64, 40, 50, 50, 50);
        x.flaw(1, 0);
        x.flaw(1, 30);
        x.flaw(1, 63);
        x.flaw(2, 19);
        x.flaw(2, 22);
        due.is("lay", x.lay(1, 1), 50);
        due.is("another shade is not cut", x.stripOf(0, 2), 64);
        due.is("one without a good one is not cut", x.stripOf(1, 2), 64);
        due.is("the first that gives one, to its end", x.stripOf(2, 2), 0);
        due.is("the next one is not cut", x.stripOf(3, 2), 64);
        due.is("broken ones", x.count(11), 2);
        due.is("none is left at hand", x.count(10), 0);
        due.is("lay another", x.lay(2, 1), 50);
        due.is("one of the next strip", x.stripOf(3, 2), 42);
        due.is("no more broken ones", x.count(11), 2);
    }

    private static void onlyEmptyCellsAreLaid() {
        due.by("A cell can be laid only if it is empty.");
        MosaicFloor x = Due.withStrips(100, 50);
        due.is("an empty cell", x.lay(1, 1), 50);
        due.is("a laid cell", x.lay(1, 1), -2);
        due.is("laid cells", x.count(6), 1);
        due.is("left", x.count(21), 78);
        x.lift(1, 1);
        due.is("an empty cell again", x.lay(1, 1), 50);
        due.is("all cells that are empty", x.layAll(), 3);
        due.is("the laid one stays", x.cell(1, 1, 1), 50);
    }

    private static void everyThirdLiftedIsBroken() {
        due.by("A tessera that is lifted comes back to hand, but every third one that is lifted, counted on over all "
                + "floors, is broken.");
        MosaicFloor x = Due.withStrips(1000, 50);
        x.lay(1, 1);
        due.is("the first", x.lift(1, 1), 1);
        due.is("at hand", x.count(10), 1);
        x.floor(3, 3);
        x.lay(1, 1);
        due.is("the second, on another floor", x.lift(1, 1), 1);
        x.set(0, 30);
        x.floor(5, 5);
        x.lay(2, 2);
        due.is("the third, on another floor yet", x.lift(2, 2), 0);
        due.is("it is not at hand", x.count(10), 0);
        due.is("it is broken", x.count(11), 1);
        due.is("its length", x.count(24), 30);
        x.layAll();
        for (int i = 4; i <= 15; i++) {
            due.is("lifted as number " + i, x.lift((i - 4) % 5, (i - 4) / 5), i % 3 == 0 ? 0 : 1);
        }
        due.is("broken ones", x.count(11), 5);
        due.is("at hand", x.count(10), 8);
        x.lay(0, 0);
        due.is("a broken tessera of a strip is not counted", x.flaw(0, x.stripOf(0, 0) - x.stripOf(0, 2)) + x.cut(0), 1);
        due.is("number 16", x.lift(0, 0), 1);
    }

    private static void changesOnlyWhileNoneIsLaid() {
        due.by("Changing the size, the floor, the pattern or the way is possible only while no cell is laid");
        int[][] cells = {{0, 0}, {5, 3}, {1, 1}, {4, 2}};
        for (int[] cell : cells) {
            MosaicFloor x = Due.withStrips(100, 50);
            Due.typeText(x, "1,2");
            x.lay(cell[0], cell[1]);
            due.is("size", x.set(0, 10), -2);
            due.is("the same size", x.set(0, 20), -2);
            due.is("floor", x.floor(5, 5), -2);
            due.is("the same floor", x.floor(6, 4), -2);
            due.is("pattern", x.pattern(), -2);
            due.is("way", x.way(1), -2);
            due.is("the same way", x.way(0), -2);
            due.is("the loss can be changed", x.set(1, 4), 2);
            x.lift(cell[0], cell[1]);
            due.is("pattern behind lift", x.pattern(), 2);
            due.is("way behind lift", x.way(1), 0);
            due.is("size behind lift", x.set(0, 10), 20);
            due.is("floor behind lift", x.floor(5, 5), 25);
        }
    }

    private static void sizeThrowsAway() {
        due.by("with the size (also if it is set to what it is), tesserae at hand are thrown away");
        MosaicFloor x = Due.withStrips(200, 0, 99);
        x.cut(0);
        x.cut(0);
        x.cut(1);
        x.set(0, 61);
        due.is("not by a wrong size", x.count(10), 3);
        x.set(1, 1);
        due.is("nor by the loss", x.count(10), 3);
        due.is("the same size", x.set(0, 20), 20);
        due.is("none at hand", x.count(10), 0);
        due.is("thrown away", x.count(26), 60);
        due.is("of the shade 0", x.ready(0), x.stripOf(0, 5));
        due.is("of the shade 99", x.ready(99), x.stripOf(1, 5));
        x.cut(0);
        due.is("another size", x.set(0, 5), 20);
        due.is("none at hand", x.count(10), 0);
        due.is("thrown away in all", x.count(26), 80);
        x.set(0, 5);
        due.is("with nothing at hand", x.count(26), 80);
    }

    private static void accountsOfNothing() {
        due.by("The accounts are 0 the length of all strips that came, 1 what is left of strips");
        MosaicFloor x = new MosaicFloor();
        due.same("accounts of a new floor", Due.accounts(x), List.of(0, 0, 0, 0, 0, 0, 0));
        x.strip(20, 5);
        due.same("of the shortest strip", Due.accounts(x), List.of(20, 20, 0, 0, 0, 0, 0));
        x.cut(0);
        due.same("it is cut whole", Due.accounts(x), List.of(20, 0, 20, 0, 0, 0, 0));
        x.undo();
        x.undo();
        due.same("without the strip", Due.accounts(x), List.of(0, 0, 0, 0, 0, 0, 0));
    }

    private static void accountsOfEachKind() {
        due.by("The accounts are 0 the length of all strips that came, 1 what is left of strips, 2 the length of good "
                + "tesserae at hand, 3 that of laid ones, 4 that of broken ones (of strips and lifted), 5 the loss of "
                + "the saw, 6 what was thrown away");
        MosaicFloor x = Due.withStrips(100, 50);
        x.strip(43, 60);
        x.flaw(0, 5);
        x.cut(0);
        due.same("one of a strip is broken", Due.accounts(x), List.of(143, 121, 0, 0, 20, 2, 0));
        x.cut(0);
        due.same("one is at hand", Due.accounts(x), List.of(143, 99, 20, 0, 20, 4, 0));
        x.set(0, 20);
        due.same("it is thrown away", Due.accounts(x), List.of(143, 99, 0, 0, 20, 4, 20));
        x.cut(1);
        x.cut(1);
        due.same("the saw takes what is left", Due.accounts(x), List.of(143, 56, 40, 0, 20, 7, 20));
        x.lay(0, 0);
        x.lay(1, 1);
        x.lay(2, 1);
        due.same("three are laid", Due.accounts(x), List.of(143, 12, 20, 60, 20, 11, 20));
        x.lift(0, 0);
        due.same("one is lifted", Due.accounts(x), List.of(143, 12, 40, 40, 20, 11, 20));
        x.lift(1, 1);
        x.lift(2, 1);
        due.same("one of the lifted ones is broken", Due.accounts(x), List.of(143, 12, 60, 0, 40, 11, 20));
    }

    private static void accountsKeepOldSizes() {
        due.by("4 that of broken ones (of strips and lifted), 5 the loss of the saw, 6 what was thrown away");
        MosaicFloor x = Due.withStrips(200, 50);
        x.flaw(0, 0);
        x.cut(0);
        x.cut(0);
        x.set(0, 7);
        x.set(1, 5);
        due.same("what was stays", Due.accounts(x), List.of(200, 156, 0, 0, 20, 4, 20));
        x.flaw(0, 44);
        x.cut(0);
        x.cut(0);
        due.same("of the new size and loss", Due.accounts(x), List.of(200, 132, 7, 0, 27, 14, 20));
        x.set(0, 60);
        due.same("thrown away in the size that they had", Due.accounts(x), List.of(200, 132, 0, 0, 27, 14, 27));
        for (int i = 0; i < 3; i++) {
            x.lay(1, 1);
            x.lift(1, 1);
        }
        due.same("broken as the third one lifted", Due.accounts(x), List.of(200, 67, 0, 0, 87, 19, 27));
    }

    private static void accountsAddUp() {
        due.by("0 is the sum of the others");
        for (int loss = 0; loss <= 5; loss++) {
            MosaicFloor x = withSize(5 + 11 * loss, loss);
            x.strip(997, 50);
            x.strip(61, 0);
            x.flaw(0, 3);
            x.flaw(0, 100);
            x.cut(0);
            x.cut(0);
            addsUp(x, 997 + 61);
            x.layAll();
            addsUp(x, 997 + 61);
            for (int column = 0; column < 6; column++) {
                x.lift(column, 0);
                x.lift(column, 1);
                x.lift(column, 2);
                x.lift(column, 3);
                addsUp(x, 997 + 61);
            }
            x.set(0, 9);
            addsUp(x, 997 + 61);
            x.strip(1000, 3);
            x.layAll();
            addsUp(x, 997 + 61 + 1000);
            x.undo();
            addsUp(x, 997 + 61 + 1000);
        }
    }

    private static void addsUp(MosaicFloor x, int length) {
        List<Integer> accounts = Due.accounts(x);
        int sum = 0;
        for (int i = 1; i <= 6; i++) {
            sum += accounts.get(i);
            due.is("account " + i + " is at least 0", accounts.get(i) >= 0 ? 1 : 0, 1);
        }
        due.is("account 0", accounts.get(0), length);
        due.is("the sum of the others", sum, length);
    }
}
