/** Promises 23 to 25: type, clearText, fault. */
final class TextTest {
    private static final Due due = new Due("TextTest");

    public static void main(String[] args) {
        typeAppends();
        textHasEightyCharacters();
        clearTextEmpties();
        faultTells();
        everyCharacterIsTold();
        due.end();
    }

    private static void typeAppends() {
        MosaicFloor x = new MosaicFloor();
        due.is("type(32)", x.type(32), 1);
        due.is("type(126)", x.type(126), 2);
        due.is("type(31)", x.type(31), -1);
        due.is("type(127)", x.type(127), -1);
        due.is("type(-1)", x.type(-1), -1);
        due.is("type(65536 + 49)", x.type(65536 + 49), -1);
        due.is("the length", x.count(14), 2);
    }

    private static void textHasEightyCharacters() {
        MosaicFloor x = new MosaicFloor();
        for (int i = 1; i <= 80; i++) {
            due.is("type " + i, x.type('1'), i);
        }
        due.is("type 81", x.type('1'), -3);
        due.is("a wrong one", x.type(31), -1);
        due.is("the length", x.count(14), 80);
        due.is("its fault", x.fault(), 2);
        due.is("clearText", x.clearText(), 80);
        due.is("type again", x.type('1'), 1);
    }

    private static void clearTextEmpties() {
        MosaicFloor x = new MosaicFloor();
        due.is("an empty text", x.clearText(), 0);
        Due.typeText(x, "1,2");
        due.is("three characters", x.clearText(), 3);
        due.is("the length", x.count(14), 0);
        due.is("the fault", x.fault(), 0);
        due.is("clearText again", x.clearText(), 0);
        due.is("no change", x.count(13), 0);
    }

    private static void faultTells() {
        String[] good = {"0", "99", "00", "1,2", "01,1", "1,2,3,4,5,6,7,8", "11,22,33,44,55,66,77,88"};
        for (String text : good) {
            due.is("fault of " + text, faultOf(text), -4);
        }
        String[] bad = {"", ",", "1,", "1,,2", "100", "1,100", "a", "1a", "1,a", " 1", "1 ", "1, 2", "-1", "1.5",
            "12,3x", "1,2,3,4,5,6,7,8,", "1,2,3,4,5,6,7,8,9", "11,22,33,44,55,66,77,88,9", "1,2,3,4,5,6,7,",
            "1,2,3,4,5,6,7,888", "1;2", "/", ":", "1/", "1:"};
        int[] faults = {0, 0, 2, 2, 2, 4, 0, 1, 2, 0, 1, 2, 0, 1,
            4, 15, 15, 23, 14,
            16, 1, 0, 0, 1, 1};
        for (int i = 0; i < bad.length; i++) {
            due.is("fault of " + bad[i], faultOf(bad[i]), faults[i]);
        }
    }

    private static int faultOf(String text) {
        MosaicFloor x = new MosaicFloor();
        Due.typeText(x, text);
        return x.fault();
    }

    /** Behind one digit there may be another one or a comma, behind a comma a digit alone. */
    private static void everyCharacterIsTold() {
        for (int character = 32; character <= 126; character++) {
            boolean digit = character >= '0' && character <= '9';
            String sign = String.valueOf((char) character);
            due.is("fault of 1" + sign, faultOf("1" + sign), digit ? -4 : character == ',' ? 2 : 1);
            due.is("fault of 1," + sign, faultOf("1," + sign), digit ? -4 : 2);
            due.is("fault of 12" + sign, faultOf("12" + sign), character == ',' ? 3 : 2);
        }
    }
}
