import java.util.ArrayList;
import java.util.List;

/** Compares answers with the ones that are due, and what several tests do with a floor. */
final class Due {
    private final String test;
    private String sentence = "";
    private int askedBySentence = 1;
    private int asked;
    private int wrong;

    Due(String test) {
        this.test = test;
    }

    /** Tells the sentence of the document by which the next answers are due. */
    void by(String words) {
        noSentenceWithoutAnswers();
        sentence = words;
        askedBySentence = 0;
    }

    private void noSentenceWithoutAnswers() {
        if (askedBySentence == 0) {
            isWrong("nothing was asked");
        }
    }

    void is(String call, long got, long due) {
        asked++;
        askedBySentence++;
        if (got != due) {
            isWrong(call + " answered " + got + ", due is " + due);
        }
    }

    void same(String what, List<Integer> got, List<Integer> due) {
        asked++;
        askedBySentence++;
        if (!got.equals(due)) {
            isWrong(what + " is " + got + ", due is " + due);
        }
    }

    private void isWrong(String what) {
        wrong++;
        System.out.println(test + ": " + what + (sentence.isEmpty() ? "" : " [" + sentence + "]"));
    }

    /** Says how it went; with a wrong answer the test ends with the exit code 1. */
    void end() {
        noSentenceWithoutAnswers();
        if (asked == 0 || wrong > 0) {
            System.out.println(test + ": " + wrong + " of " + asked + " answers are not as due");
            System.exit(1);
        }
        System.out.println(test + ": all " + asked + " answers are as due");
    }

    /** Puts a text in place of the one that a floor has. */
    static void typeText(MosaicFloor x, String text) {
        x.clearText();
        for (char character : text.toCharArray()) {
            x.type(character);
        }
    }

    /** A new floor with a strip of each of the shades. */
    static MosaicFloor withStrips(int length, int... shades) {
        MosaicFloor x = new MosaicFloor();
        for (int shade : shades) {
            x.strip(length, shade);
        }
        return x;
    }

    /** The text of a pattern with the shades 10, 11, 12 and so on. */
    static String shadesFrom10(int length) {
        StringBuilder text = new StringBuilder();
        for (int i = 0; i < length; i++) {
            text.append(i == 0 ? "" : ",").append(10 + i);
        }
        return text.toString();
    }

    static MosaicFloor withPattern(String pattern, int way, int columns, int rows) {
        MosaicFloor x = new MosaicFloor();
        typeText(x, pattern);
        x.pattern();
        x.way(way);
        x.floor(columns, rows);
        return x;
    }

    /** What the cells of the border want, in the order of their numbers. */
    static List<Integer> border(MosaicFloor x) {
        int columns = x.count(0);
        int rows = x.count(1);
        List<Integer> wanted = new ArrayList<>();
        for (int i = 0; i < columns - 1; i++) {
            wanted.add(x.cell(i, 0, 0));
        }
        for (int i = 0; i < rows - 1; i++) {
            wanted.add(x.cell(columns - 1, i, 0));
        }
        for (int i = columns - 1; i > 0; i--) {
            wanted.add(x.cell(i, rows - 1, 0));
        }
        for (int i = rows - 1; i > 0; i--) {
            wanted.add(x.cell(0, i, 0));
        }
        return wanted;
    }

    /** The shades that are laid, -4 for an empty cell, row by row. */
    static List<Integer> laid(MosaicFloor x) {
        List<Integer> laid = new ArrayList<>();
        for (int y = 0; y < x.count(1); y++) {
            for (int column = 0; column < x.count(0); column++) {
                laid.add(x.cell(column, y, 1));
            }
        }
        return laid;
    }

    /** The accounts 0 to 6. */
    static List<Integer> accounts(MosaicFloor x) {
        List<Integer> accounts = new ArrayList<>();
        for (int what = 20; what <= 26; what++) {
            accounts.add(x.count(what));
        }
        return accounts;
    }

    /** What can be seen of a floor, but for the text and the history; for a small floor some 100 calls. */
    static List<Integer> look(MosaicFloor x) {
        List<Integer> seen = new ArrayList<>();
        for (int what = 0; what <= 26; what++) {
            if (what != 13 && what != 14) {
                seen.add(x.count(what));
            }
        }
        for (int i = 0; i < x.count(3); i++) {
            seen.add(x.shade(i));
        }
        for (int y = 0; y < x.count(1); y++) {
            for (int cell = 0; cell < x.count(0); cell++) {
                seen.add(x.cell(cell, y, 0));
                seen.add(x.cell(cell, y, 1));
            }
        }
        for (int strip = 0; strip < x.count(9); strip++) {
            for (int what = 0; what <= 6; what++) {
                seen.add(x.stripOf(strip, what));
            }
        }
        return seen;
    }
}
