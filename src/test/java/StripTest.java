/** Promises 11 to 14: strip, flaw, cut, stripOf. */
final class StripTest {
    private static final Due due = new Due("StripTest");

    public static void main(String[] args) {
        stripComes();
        flawIsMarked();
        flawIsRefused();
        cutTakesSizeAndLoss();
        flawsBreak();
        cutIsRefused();
        stripTells();
        stripTellsAhead();
        due.end();
    }

    private static void stripComes() {
        MosaicFloor x = new MosaicFloor();
        due.is("strip(20, 0)", x.strip(20, 0), 0);
        due.is("strip(1000, 99)", x.strip(1000, 99), 1);
        int[][] wrong = {{19, 0}, {1001, 0}, {-20, 0}, {100, -1}, {100, 100}};
        for (int[] w : wrong) {
            due.is("strip(" + w[0] + ", " + w[1] + ")", x.strip(w[0], w[1]), -1);
        }
        for (int i = 2; i < 10; i++) {
            due.is("strip " + i, x.strip(50, i), i);
        }
        due.is("an eleventh strip", x.strip(50, 1), -3);
        due.is("a wrong one first", x.strip(5, 1), -1);
        due.is("strips", x.count(9), 10);
        due.is("their length", x.count(20), 1420);
        due.is("what is left", x.count(21), 1420);
        x.undo();
        due.is("the tenth again", x.strip(70, 1), 9);
        due.is("its length", x.stripOf(9, 0), 70);
    }

    private static void flawIsMarked() {
        MosaicFloor x = new MosaicFloor();
        x.strip(1000, 1);
        x.strip(50, 2);
        due.is("flaw(0, 999)", x.flaw(0, 999), 1);
        due.is("flaw(0, 0)", x.flaw(0, 0), 2);
        due.is("flaw(1, 49)", x.flaw(1, 49), 1);
        due.is("the same place of another strip", x.flaw(1, 0), 2);
        due.is("cut off the flaw", x.cut(0), 0);
        due.is("flaw behind the saw", x.flaw(0, 22), 3);
        due.is("undo", x.undo(), 4);
        due.is("flaws", x.stripOf(0, 3), 2);
        due.is("flaw again", x.flaw(0, 22), 3);
    }

    private static void flawIsRefused() {
        MosaicFloor x = new MosaicFloor();
        due.is("no strip", x.flaw(0, 5), -1);
        x.strip(100, 1);
        due.is("flaw(-1, 5)", x.flaw(-1, 5), -1);
        due.is("flaw(1, 5)", x.flaw(1, 5), -1);
        due.is("flaw(10, 5)", x.flaw(10, 5), -1);
        due.is("flaw(0, -1)", x.flaw(0, -1), -1);
        due.is("flaw(0, 1000)", x.flaw(0, 1000), -1);
        due.is("flaw(0, 999)", x.flaw(0, 999), -2);
        due.is("flaw(0, 100)", x.flaw(0, 100), -2);
        due.is("flaw(0, 99)", x.flaw(0, 99), 1);
        due.is("flaw(0, 99) again", x.flaw(0, 99), -2);
        x.cut(0);
        due.is("in what is cut off", x.flaw(0, 0), -2);
        due.is("in what the saw took", x.flaw(0, 21), -2);
        due.is("in what is left", x.flaw(0, 22), 2);
        for (int i = 3; i <= 6; i++) {
            due.is("flaw " + i, x.flaw(0, 60 + i), i);
        }
        due.is("a seventh flaw", x.flaw(0, 70), -3);
        due.is("one that is not possible", x.flaw(0, 99), -2);
        due.is("one that is cut off", x.flaw(0, 1), -2);
        due.is("one out of range", x.flaw(0, 1000), -1);
    }

    private static void cutTakesSizeAndLoss() {
        MosaicFloor x = new MosaicFloor();
        x.strip(43, 1);
        due.is("cut", x.cut(0), 1);
        due.is("left", x.stripOf(0, 2), 21);
        due.is("loss", x.count(25), 2);
        due.is("cut again", x.cut(0), 1);
        due.is("the saw takes what is left", x.stripOf(0, 2), 0);
        due.is("loss in all", x.count(25), 3);
        due.is("nothing is left", x.cut(0), -2);
        due.is("at hand", x.count(10), 2);
        due.is("the strip stays", x.count(9), 1);
        x.strip(20, 1);
        due.is("just the size", x.cut(1), 1);
        due.is("no loss", x.count(25), 3);
        x.strip(100, 1);
        x.set(0, 5);
        x.set(1, 0);
        due.is("another size", x.cut(2), 1);
        due.is("left behind it", x.stripOf(2, 2), 95);
    }

    private static void flawsBreak() {
        MosaicFloor x = new MosaicFloor();
        x.strip(200, 4);
        x.flaw(0, 19);
        x.flaw(0, 42);
        x.flaw(0, 43);
        x.flaw(0, 44);
        x.flaw(0, 64);
        x.flaw(0, 66);
        due.is("a flaw in its last millimetre", x.cut(0), 0);
        due.is("flaws in what the saw takes", x.cut(0), 1);
        due.is("a flaw behind what the saw took", x.cut(0), 0);
        due.is("a flaw in its first millimetre", x.cut(0), 0);
        due.is("no flaw", x.cut(0), 1);
        due.is("broken ones", x.count(11), 3);
        due.is("their length", x.count(24), 60);
        due.is("good ones", x.stripOf(0, 6), 2);
        due.is("at hand", x.ready(4), 2 + 4);
    }

    private static void cutIsRefused() {
        MosaicFloor x = new MosaicFloor();
        due.is("no strip", x.cut(0), -1);
        x.strip(39, 1);
        due.is("cut(-1)", x.cut(-1), -1);
        due.is("cut(1)", x.cut(1), -1);
        due.is("cut(10)", x.cut(10), -1);
        due.is("cut(0)", x.cut(0), 1);
        due.is("less than the size is left", x.cut(0), -2);
        due.is("what is left", x.stripOf(0, 2), 17);
        due.is("states", x.count(13), 2);
        x.set(0, 17);
        due.is("enough for a less size", x.cut(0), 1);
    }

    private static void stripTells() {
        MosaicFloor x = new MosaicFloor();
        due.is("no strip", x.stripOf(0, 0), -1);
        x.strip(100, 33);
        x.strip(90, 44);
        x.flaw(1, 50);
        x.flaw(1, 60);
        x.flaw(1, 5);
        x.cut(1);
        int[] first = {100, 33, 100, 0, 4, 4, 0};
        int[] second = {90, 44, 68, 3, 3, 2, 0};
        for (int what = 0; what <= 6; what++) {
            due.is("stripOf(0, " + what + ")", x.stripOf(0, what), first[what]);
            due.is("stripOf(1, " + what + ")", x.stripOf(1, what), second[what]);
        }
        due.is("stripOf(2, 0)", x.stripOf(2, 0), -1);
        due.is("stripOf(-1, 0)", x.stripOf(-1, 0), -1);
        due.is("stripOf(0, 7)", x.stripOf(0, 7), -1);
        due.is("stripOf(0, -1)", x.stripOf(0, -1), -1);
        x.cut(0);
        x.lay(0, 0);
        x.set(0, 20);
        due.is("laid ones were cut too", x.stripOf(0, 6), 1);
        x.lay(1, 0);
        due.is("cut to be laid", x.stripOf(0, 6), 2);
        x.lift(1, 0);
        x.lift(0, 0);
        x.set(0, 30);
        due.is("thrown away ones were cut too", x.stripOf(0, 6), 2);
    }

    private static void stripTellsAhead() {
        MosaicFloor x = new MosaicFloor();
        x.strip(64, 1);
        due.is("three sizes and two losses", x.stripOf(0, 4), 3);
        x.strip(63, 1);
        due.is("a millimetre less", x.stripOf(1, 4), 2);
        x.strip(1000, 1);
        x.set(0, 5);
        x.set(1, 0);
        due.is("the most tesserae", x.stripOf(2, 4), 200);
        x.flaw(2, 4);
        x.flaw(2, 5);
        x.flaw(2, 9);
        x.flaw(2, 995);
        due.is("good ones", x.stripOf(2, 5), 197);
        x.set(1, 5);
        due.is("with the greatest loss", x.stripOf(2, 4), 100);
        due.is("flaws in what the saw takes", x.stripOf(2, 5), 99);
        x.set(0, 60);
        due.is("the greatest size", x.stripOf(0, 4), 1);
        due.is("of what is left", x.stripOf(2, 4), 15);
    }
}
