/** The sentences of the promises 23 to 25 that name a boundary, each with a test of its own. */
final class PromisesOfTextTest {
    private static final Due due = new Due("PromisesOfTextTest");

    public static void main(String[] args) {
        typeAppends();
        typeTellsTheLength();
        typeIsInvalid();
        typeReachesTheLimit();
        clearTextEmpties();
        clearTextTellsTheLength();
        faultTells();
        faultFindsNone();
        due.end();
    }

    private static void typeAppends() {
        due.by("Promise 23: Appends a character to the text.");
        MosaicFloor x = new MosaicFloor();
        x.type('1');
        x.type('2');
        due.is("pattern of 12", x.pattern() * 100 + x.shade(0), 112);
        x.type(',');
        due.is("fault of 12,", x.fault(), 3);
        x.type('3');
        due.is("pattern of 12,3", x.pattern(), 2);
        due.is("its first shade", x.shade(0), 12);
        due.is("its second shade", x.shade(1), 3);
        x.type('4');
        x.type('5');
        due.is("fault of 12,345", x.fault(), 5);
    }

    private static void typeTellsTheLength() {
        due.by("Promise 23: Returns the length of the text");
        MosaicFloor x = new MosaicFloor();
        for (int i = 1; i <= 80; i++) {
            due.is("type", x.type(32 + i), i);
            due.is("count(14)", x.count(14), i);
        }
        x.clearText();
        due.is("behind clearText", x.type('1'), 1);
    }

    private static void typeIsInvalid() {
        due.by("Promise 23: INVALID_ARGUMENT if character is out of range");
        MosaicFloor x = new MosaicFloor();
        int[] wrong = {Integer.MIN_VALUE, -1, 0, 9, 10, 31, 127, 128, 255, 65536 + 49, Integer.MAX_VALUE};
        for (int character : wrong) {
            due.is("type(" + character + ")", x.type(character), -1);
            due.is("length", x.count(14), 0);
        }
        due.is("type(32)", x.type(32), 1);
        due.is("type(126)", x.type(126), 2);
        due.is("length", x.count(14), 2);
    }

    private static void typeReachesTheLimit() {
        due.by("Promise 23: LIMIT_REACHED if it has 80 characters");
        MosaicFloor x = new MosaicFloor();
        for (int i = 1; i <= 79; i++) {
            x.type('1');
        }
        due.is("the 80th", x.type('1'), 80);
        due.is("the 81st", x.type('1'), -3);
        due.is("the 81st, a space", x.type(32), -3);
        due.is("a wrong one", x.type(31), -1);
        due.is("another wrong one", x.type(127), -1);
        due.is("length", x.count(14), 80);
    }

    private static void clearTextEmpties() {
        due.by("Promise 24: Empties the text.");
        MosaicFloor x = new MosaicFloor();
        Due.typeText(x, "9,8,7");
        x.clearText();
        due.is("length", x.count(14), 0);
        due.is("fault", x.fault(), 0);
        due.is("pattern", x.pattern(), -2);
        x.type('5');
        due.is("nothing of the old text is left", x.pattern() * 100 + x.shade(0), 105);
    }

    private static void clearTextTellsTheLength() {
        due.by("Promise 24: Returns the length it had.");
        MosaicFloor x = new MosaicFloor();
        due.is("an empty text", x.clearText(), 0);
        x.type(' ');
        due.is("one character", x.clearText(), 1);
        due.is("empty again", x.clearText(), 0);
        for (int i = 0; i < 85; i++) {
            x.type('1');
        }
        due.is("a full text", x.clearText(), 80);
        due.is("empty again", x.clearText(), 0);
    }

    private static int faultOf(String text) {
        MosaicFloor x = new MosaicFloor();
        Due.typeText(x, text);
        return x.fault();
    }

    private static void faultTells() {
        due.by("Promise 25: Returns the fault of the text");
        due.is("an empty text", faultOf(""), 0);
        due.is("at its beginning", faultOf("a"), 0);
        due.is("at its end", faultOf("1a"), 1);
        due.is("behind its end", faultOf("1,"), 2);
        due.is("amid it", faultOf("1,,2"), 2);
        due.is("a third digit", faultOf("123"), 2);
        due.is("a ninth shade", faultOf("1,2,3,4,5,6,7,8,9"), 15);
        due.is("a ninth shade, the farthest place", faultOf("11,22,33,44,55,66,77,88,99"), 23);
        StringBuilder full = new StringBuilder();
        for (int i = 0; i < 40; i++) {
            full.append("1,");
        }
        due.is("80 characters", faultOf(full.toString()), 15);
    }

    private static void faultFindsNone() {
        due.by("Promise 25: NOT_FOUND if it has none");
        for (int length = 1; length <= 8; length++) {
            due.is("a pattern of " + length, faultOf(Due.shadesFrom10(length)), -4);
        }
        due.is("a digit", faultOf("0"), -4);
        due.is("two digits", faultOf("00"), -4);
        MosaicFloor x = new MosaicFloor();
        Due.typeText(x, "1,2");
        due.is("none", x.fault(), -4);
        due.is("none, again", x.fault(), -4);
        x.pattern();
        due.is("none, behind pattern", x.fault(), -4);
        x.type(',');
        due.is("one", x.fault(), 4);
    }
}
