import java.util.ArrayList;
import java.util.List;

/** Compares answers with the ones that are due, and what several tests do with a floor. */
final class Due {
    private final String test;
    private int asked;
    private int wrong;

    Due(String test) {
        this.test = test;
    }

    void is(String call, long got, long due) {
        asked++;
        if (got != due) {
            wrong++;
            System.out.println(test + ": " + call + " answered " + got + ", due is " + due);
        }
    }

    void same(String what, List<Integer> got, List<Integer> due) {
        asked++;
        if (!got.equals(due)) {
            wrong++;
            System.out.println(test + ": " + what + " is " + got + ", due is " + due);
        }
    }

    /** Says how it went; with a wrong answer the test ends with the exit code 1. */
    void end() {
        if (asked == 0 || wrong > 0) {
            System.out.println(test + ": " + wrong + " of " + asked + " answers are not as due");
            System.exit(1);
        }
        System.out.println(test + ": all " + asked + " answers are as due");
    }

    /** Puts a text in place of the one that a floor has. */
    static void typeText(MosaicFloor x, String text) {
        x.clearText();
        for (char character : text.toCharArray()) {
            x.type(character);
        }
    }

    static MosaicFloor withPattern(String pattern, int way, int columns, int rows) {
        MosaicFloor x = new MosaicFloor();
        typeText(x, pattern);
        x.pattern();
        x.way(way);
        x.floor(columns, rows);
        return x;
    }

    /** What the cells of the border want, in the order of their numbers. */
    static List<Integer> border(MosaicFloor x) {
        int columns = x.count(0);
        int rows = x.count(1);
        List<Integer> wanted = new ArrayList<>();
        for (int i = 0; i < columns - 1; i++) {
            wanted.add(x.cell(i, 0, 0));
        }
        for (int i = 0; i < rows - 1; i++) {
            wanted.add(x.cell(columns - 1, i, 0));
        }
        for (int i = columns - 1; i > 0; i--) {
            wanted.add(x.cell(i, rows - 1, 0));
        }
        for (int i = rows - 1; i > 0; i--) {
            wanted.add(x.cell(0, i, 0));
        }
        return wanted;
    }

    /** What can be seen of a floor, but for the text and the history; for a small floor some 100 calls. */
    static List<Integer> look(MosaicFloor x) {
        List<Integer> seen = new ArrayList<>();
        for (int what = 0; what <= 26; what++) {
            if (what != 13 && what != 14) {
                seen.add(x.count(what));
            }
        }
        for (int i = 0; i < x.count(3); i++) {
            seen.add(x.shade(i));
        }
        for (int y = 0; y < x.count(1); y++) {
            for (int cell = 0; cell < x.count(0); cell++) {
                seen.add(x.cell(cell, y, 0));
                seen.add(x.cell(cell, y, 1));
            }
        }
        for (int strip = 0; strip < x.count(9); strip++) {
            for (int what = 0; what <= 6; what++) {
                seen.add(x.stripOf(strip, what));
            }
        }
        return seen;
    }
}
