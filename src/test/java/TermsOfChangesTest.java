import java.util.ArrayList;
import java.util.List;

/** The sentences of the document's "Texts" and "Changes and errors" that name a boundary, each with a test of its own. */
final class TermsOfChangesTest {
    private static final Due due = new Due("TermsOfChangesTest");

    /** Numbers of the calls that are changes, as doChange knows them. */
    private static final int CHANGES = 11;

    public static void main(String[] args) {
        textHasAtMost80Characters();
        textIsEmptyAtFirst();
        shadesHaveOneOrTwoDigits();
        commasStandBetweenShades();
        faultIsTheFirstCharacter();
        commaAheadOfANinthIsAFault();
        faultIsTheLengthIfAShadeLacks();
        emptyTextHasTheFault0();
        elevenCallsAreChanges();
        sameValuesAreChanges();
        errorsAreNoChanges();
        otherCallsAreNoChanges();
        historyHasAtMostFiveStates();
        sixthStateDropsTheOldest();
        statesHoldEverything();
        statesHoldNoText();
        statesHoldTheLifted();
        invalidArgumentGoesFirst();
        notPossibleGoesBeforeLimitReached();
        errorsChangeNothing();
        errorsOfLimitsChangeNothing();
        errorsLeaveTheHistory();
        noSuchCellIsInvalid();
        noSuchStripIsInvalid();
        errorsAreNumbered();
        due.end();
    }

    // ---- texts

    private static void textHasAtMost80Characters() {
        due.by("There is a text of at most 80 characters");
        MosaicFloor x = new MosaicFloor();
        for (int i = 1; i <= 80; i++) {
            due.is("type", x.type(i % 2 == 1 ? '1' : '2'), i);
        }
        due.is("the 81st", x.type('1'), -3);
        due.is("the 81st again", x.type(','), -3);
        due.is("length", x.count(14), 80);
        due.is("clearText", x.clearText(), 80);
        due.is("the first again", x.type('1'), 1);
        due.is("the new text", x.pattern() + x.shade(0), 1 + 1);
    }

    private static void textIsEmptyAtFirst() {
        due.by("initially empty");
        MosaicFloor x = new MosaicFloor();
        due.is("length", x.count(14), 0);
        due.is("fault", x.fault(), 0);
        due.is("clearText", x.clearText(), 0);
        due.is("pattern", x.pattern(), -2);
        due.is("the first character", x.type('1'), 1);
    }

    private static int faultOf(String text) {
        MosaicFloor x = new MosaicFloor();
        Due.typeText(x, text);
        int fault = x.fault();
        due.is("pattern of " + text + " is possible", x.pattern() > 0 ? 1 : 0, fault == -4 ? 1 : 0);
        return fault;
    }

    private static void faultsAre(String[] texts, int... faults) {
        for (int i = 0; i < texts.length; i++) {
            due.is("fault of \"" + texts[i] + "\"", faultOf(texts[i]), faults[i]);
        }
    }

    private static void shadesHaveOneOrTwoDigits() {
        due.by("a pattern, 1 to 8 shades of 1 or 2 digits");
        faultsAre(new String[] {"0", "9", "00", "09", "10", "99"}, -4, -4, -4, -4, -4, -4);
        faultsAre(new String[] {"000", "100", "1,000", "12,123,1", "1,2,3,4,5,6,7,888"}, 2, 2, 4, 5, 16);
        faultsAre(new String[] {"1,2,3,4,5,6,7,8", "11,12,13,14,15,16,17,18", "1,02,3,04,5,06,7,08"}, -4, -4, -4);
        MosaicFloor x = new MosaicFloor();
        Due.typeText(x, "00,07,70,7,99");
        x.pattern();
        due.is("00", x.shade(0), 0);
        due.is("07", x.shade(1), 7);
        due.is("70", x.shade(2), 70);
        due.is("7", x.shade(3), 7);
        due.is("99", x.shade(4), 99);
    }

    private static void commasStandBetweenShades() {
        due.by("with \",\" between two of them");
        faultsAre(new String[] {"1,2", "12,3", "1,23"}, -4, -4, -4);
        faultsAre(new String[] {",1", "1,,2", "1 2", "1 ,2", "1, 2", "1;2", "1.2", "1,2,,3", ",,"}, 0, 2, 1, 1, 2, 1, 1, 4, 0);
    }

    private static void faultIsTheFirstCharacter() {
        due.by("The fault of the text is the position, from 0, of the first character that cannot stand where it stands");
        faultsAre(new String[] {"x", "1x", "12x", "1,x", "1,2x", "x1", " 1", "-1", "+1", "1-", "12 "},
                0, 1, 2, 2, 3, 0, 0, 0, 0, 1, 2);
        faultsAre(new String[] {"1x,,", "123,,", "x,", "1,2,3,4,5,6,7,8x9", "1,2,3,4,5,6,7,x"}, 1, 2, 0, 15, 14);
        for (int character = 32; character <= 126; character++) {
            String sign = String.valueOf((char) character);
            boolean digit = character >= '0' && character <= '9';
            faultsAre(new String[] {sign, "1,2" + sign}, digit ? -4 : 0, digit ? -4 : character == ',' ? 4 : 3);
        }
        MosaicFloor x = new MosaicFloor();
        for (int i = 0; i < 80; i++) {
            x.type(' ');
        }
        due.is("the first of 80", x.fault(), 0);
    }

    private static void commaAheadOfANinthIsAFault() {
        due.by("the \",\" ahead of a ninth shade, too");
        faultsAre(new String[] {"1,2,3,4,5,6,7,8,9", "10,11,12,13,14,15,16,17,18", "1,2,3,4,5,6,7,8,x", "1,2,3,4,5,6,7,8,,"},
                15, 23, 15, 15);
        faultsAre(new String[] {"1,2,3,4,5,6,7,8", "1,2,3,4,5,6,7,8,"}, -4, 15);
        faultsAre(new String[] {"1,2,3,4,5,6,7,8,9,1,2,3,4,5,6,7,8"}, 15);
    }

    private static void faultIsTheLengthIfAShadeLacks() {
        due.by("or its length, if a shade lacks at its end");
        faultsAre(new String[] {"1,", "12,", "1,2,", "1,23,", "1,2,3,4,5,6,7,", "11,22,33,44,55,66,77,"}, 2, 3, 4, 5, 14, 21);
    }

    private static void emptyTextHasTheFault0() {
        due.by("the empty text has the fault 0");
        faultsAre(new String[] {""}, 0);
        MosaicFloor x = new MosaicFloor();
        Due.typeText(x, "1");
        due.is("fault of 1", x.fault(), -4);
        x.clearText();
        due.is("fault of the text that was emptied", x.fault(), 0);
    }

    // ---- changes

    /** A small floor with a strip that is cut and one that is used up, a laid cell and a text, and a full history. */
    private static MosaicFloor worked(boolean laid) {
        MosaicFloor x = Due.withPattern("10,20", 1, 3, 3);
        x.strip(200, 12);
        x.strip(60, 40);
        x.strip(39, 77);
        x.cut(2);
        x.flaw(0, 3);
        x.cut(0);
        x.cut(0);
        if (laid) {
            x.lay(0, 0);
        }
        Due.typeText(x, "10,20");
        return x;
    }

    private static int doChange(MosaicFloor x, int change) {
        switch (change) {
            case 0: return x.floor(5, 4);
            case 1: return x.set(0, 10);
            case 2: return x.pattern();
            case 3: return x.way(2);
            case 4: return x.want(1, 1, 3);
            case 5: return x.strip(100, 7);
            case 6: return x.flaw(1, 59);
            case 7: return x.cut(1);
            case 8: return x.lay(1, 1);
            case 9: return x.layAll();
            default: return x.lift(0, 0);
        }
    }

    private static boolean needsALaidCell(int change) {
        return change == CHANGES - 1;
    }

    private static void elevenCallsAreChanges() {
        due.by("The changes are the calls of floor, set, pattern, way, want, strip, flaw, cut, lay, layAll and lift that "
                + "return no error");
        for (int change = 0; change < CHANGES; change++) {
            MosaicFloor x = worked(needsALaidCell(change));
            x.undo();
            x.undo();
            if (needsALaidCell(change)) {
                x.lay(0, 0);
                x.undo();
                x.lay(0, 0);
            }
            int states = x.count(13);
            due.is("change " + change + " is no error", doChange(x, change) >= 0 ? 1 : 0, 1);
            due.is("states behind change " + change, x.count(13), states + 1);
        }
        MosaicFloor x = new MosaicFloor();
        x.set(1, 4);
        due.is("set of the loss", x.count(13), 1);
    }

    private static void sameValuesAreChanges() {
        due.by("(also if nothing becomes different)");
        MosaicFloor x = new MosaicFloor();
        x.type('0');
        x.floor(6, 4);
        due.is("floor of the same size", x.count(13), 1);
        x.set(0, 20);
        due.is("the same size", x.count(13), 2);
        x.set(1, 2);
        due.is("the same loss", x.count(13), 3);
        x.pattern();
        due.is("the same pattern", x.count(13), 4);
        x.way(0);
        due.is("the same way", x.count(13), 5);
        x.undo();
        x.undo();
        x.want(1, 1, 50);
        due.is("the same want", x.count(13), 4);
        due.is("layAll lays nothing", x.layAll(), 0);
        due.is("all the same", x.count(13), 5);
        for (int left = 4; left >= 0; left--) {
            due.is("undo", x.undo(), left);
        }
    }

    private static int doError(MosaicFloor x, int error) {
        switch (error) {
            case 0: return x.floor(2, 4);
            case 1: return x.floor(4, 4);
            case 2: return x.set(0, 61);
            case 3: return x.set(0, 20);
            case 4: return x.set(1, 6);
            case 5: return x.set(2, 5);
            case 6: return x.pattern();
            case 7: return x.way(3);
            case 8: return x.way(0);
            case 9: return x.want(0, 0, 5);
            case 10: return x.want(1, 1, 100);
            case 11: return x.want(3, 1, 5);
            case 12: return x.strip(19, 5);
            case 13: return x.strip(100, 100);
            case 14: return x.flaw(0, 3);
            case 15: return x.flaw(0, 200);
            case 16: return x.flaw(3, 3);
            case 17: return x.cut(3);
            case 18: return x.lay(0, 0);
            case 19: return x.lay(3, 0);
            case 20: return x.lift(1, 1);
            case 21: return x.lift(0, 3);
            case 22: return x.nearest(0, 0);
            case 23: return x.cell(1, 1, 1);
            case 24: return x.cell(1, 1, 4);
            case 25: return x.count(17);
            case 26: return x.shade(2);
            case 27: return x.stripOf(0, 7);
            case 28: return x.ready(100);
            case 29: return x.lacks(-1);
            case 30: return x.stripFor(100);
            case 31: return x.type(31);
            case 32: return x.type(127);
            case 33: return x.cut(2);
            case 34: return x.cut(-1);
            case 35: return x.flaw(0, 0);
            case 36: return x.flaw(0, 21);
            case 37: return x.flaw(-1, 50);
            case 38: return x.flaw(0, -1);
            case 39: return x.lay(-1, 0);
            case 40: return x.lift(-1, 0);
            case 41: return x.nearest(3, 3);
            case 42: return x.cell(0, 0, -1);
            case 43: return x.cell(0, 3, 0);
            case 44: return x.shade(-1);
            case 45: return x.stripOf(3, 0);
            default: return x.count(27);
        }
    }

    private static final int ERRORS = 47;

    private static void errorsAreNoChanges() {
        due.by("The changes are the calls [..] that return no error");
        MosaicFloor x = worked(true);
        x.undo();
        x.undo();
        x.undo();
        x.lay(0, 0);
        int states = x.count(13);
        due.is("states, one more would be seen", states, 3);
        for (int error = 0; error < ERRORS; error++) {
            due.is("error " + error + " is one", doError(x, error) < 0 ? 1 : 0, 1);
            due.is("states behind error " + error, x.count(13), states);
        }
    }

    private static void otherCallsAreNoChanges() {
        due.by("The changes are the calls of floor, set, pattern, way, want, strip, flaw, cut, lay, layAll and lift");
        MosaicFloor x = worked(true);
        x.undo();
        x.undo();
        x.clearText();
        x.type('1');
        x.fault();
        x.cell(0, 0, 0);
        x.shade(0);
        x.stripOf(0, 2);
        x.nearest(1, 1);
        x.ready(12);
        x.lacks(10);
        x.stripFor(20);
        x.ifLaid();
        due.is("states", x.count(13), 3);
        due.is("undo is none", x.undo(), 2);
        due.is("states behind undo", x.count(13), 2);
    }

    private static void historyHasAtMostFiveStates() {
        due.by("A history of at most 5 states is kept");
        MosaicFloor x = new MosaicFloor();
        due.is("states at first", x.count(13), 0);
        due.is("undo at first", x.undo(), -2);
        for (int change = 1; change <= 12; change++) {
            x.want(1, 1, change);
            due.is("states behind " + change, x.count(13), Math.min(change, 5));
        }
        for (int left = 4; left >= 0; left--) {
            due.is("undo", x.undo(), left);
            due.is("the want", x.cell(1, 1, 0), 7 + left);
        }
        due.is("undo of no more", x.undo(), -2);
        due.is("the want stays", x.cell(1, 1, 0), 7);
    }

    private static void sixthStateDropsTheOldest() {
        due.by("if there are 6 states then, the oldest one is dropped");
        for (int changes = 4; changes <= 7; changes++) {
            MosaicFloor x = new MosaicFloor();
            for (int i = 1; i <= changes; i++) {
                x.strip(20 + i, i);
            }
            int undone = 0;
            while (undone < 10 && x.undo() >= 0) {
                undone++;
            }
            due.is("undone of " + changes, undone, Math.min(changes, 5));
            due.is("strips that are left", x.count(9), Math.max(changes - 5, 0));
        }
        MosaicFloor x = new MosaicFloor();
        for (int i = 1; i <= 5; i++) {
            x.want(1, 1, i);
        }
        x.undo();
        x.want(1, 1, 60);
        x.want(1, 1, 61);
        int[] before = {60, 4, 3, 2, 1};
        for (int want : before) {
            x.undo();
            due.is("behind undo among changes", x.cell(1, 1, 0), want);
        }
        due.is("no more", x.undo(), -2);
    }

    private static void statesHoldEverything() {
        due.by("each change records everything before it but the text");
        for (int change = 0; change < CHANGES; change++) {
            MosaicFloor x = worked(needsALaidCell(change));
            List<Integer> before = Due.look(x);
            due.is("change " + change + " is no error", doChange(x, change) >= 0 ? 1 : 0, 1);
            x.undo();
            due.same("all before change " + change, Due.look(x), before);
        }
        MosaicFloor x = worked(true);
        List<Integer> before = Due.look(x);
        x.lift(0, 0);
        x.set(0, 33);
        x.set(1, 5);
        x.strip(1000, 11);
        x.layAll();
        for (int i = 0; i < 5; i++) {
            x.undo();
        }
        due.same("all before five changes", Due.look(x), before);
    }

    private static void statesHoldNoText() {
        due.by("everything before it but the text");
        MosaicFloor x = new MosaicFloor();
        Due.typeText(x, "1,2");
        x.pattern();
        Due.typeText(x, "3,4,5x");
        due.is("undo", x.undo(), 0);
        due.is("the pattern is the old one", x.count(3), 1);
        due.is("the text is the new one", x.count(14), 6);
        due.is("its fault", x.fault(), 5);
        x.way(1);
        x.clearText();
        x.undo();
        due.is("an empty text stays empty", x.count(14), 0);
    }

    private static void statesHoldTheLifted() {
        due.by("each change records everything before it [..] every third one that is lifted");
        MosaicFloor x = Due.withStrips(1000, 50);
        x.layAll();
        x.lift(0, 0);
        x.lift(1, 0);
        due.is("the third", x.lift(2, 0), 0);
        x.undo();
        due.is("lifted", x.count(12), 2);
        due.is("broken", x.count(11), 0);
        due.is("the third again", x.lift(3, 0), 0);
        due.is("the fourth", x.lift(4, 0), 1);
    }

    // ---- errors

    private static void invalidArgumentGoesFirst() {
        due.by("INVALID_ARGUMENT is returned rather than NOT_POSSIBLE, NOT_POSSIBLE rather than LIMIT_REACHED, and "
                + "LIMIT_REACHED rather than NOT_FOUND");
        MosaicFloor x = Due.withStrips(100, 1, 1, 1, 1, 1, 1, 1, 1, 1, 1);
        x.lay(1, 1);
        due.is("floor of wrong columns, a cell is laid", x.floor(2, 5), -1);
        due.is("floor of wrong rows, a cell is laid", x.floor(5, 13), -1);
        due.is("a wrong size, a cell is laid", x.set(0, 4), -1);
        due.is("a wrong setting, a cell is laid", x.set(2, 20), -1);
        due.is("a wrong way, a cell is laid", x.way(-1), -1);
        due.is("a wrong shade for the border", x.want(0, 0, 100), -1);
        due.is("a wrong shade for a laid cell", x.want(1, 1, -1), -1);
        due.is("a wrong strip, if there are 10", x.strip(1001, 1), -1);
        due.is("a wrong shade, if there are 10", x.strip(100, 100), -1);
        due.is("lay of no cell", x.lay(6, 1), -1);
        due.is("lift of no cell", x.lift(1, 4), -1);
        due.is("nearest of no cell", x.nearest(-1, 1), -1);
        due.is("a wrong thing of an empty cell", x.cell(2, 2, 4), -1);
        due.is("a wrong thing of the field", x.cell(1, 1, -1), -1);
        due.is("a thing of no cell", x.cell(6, 4, 1), -1);
        for (int i = 0; i < 6; i++) {
            x.flaw(1, i);
        }
        due.is("a wrong place, if there are 6 flaws", x.flaw(1, 1000), -1);
        due.is("a place of no strip", x.flaw(10, 5), -1);
        for (int i = 0; i < 80; i++) {
            x.type('1');
        }
        due.is("a wrong character, if there are 80", x.type(127), -1);
        due.is("nearest of no cell, without stone", new MosaicFloor().nearest(0, 4), -1);
        due.is("shade of a negative index", new MosaicFloor().shade(-1), -1);
    }

    private static void notPossibleGoesBeforeLimitReached() {
        due.by("NOT_POSSIBLE rather than LIMIT_REACHED");
        MosaicFloor x = Due.withStrips(100, 1);
        x.cut(0);
        for (int i = 0; i < 6; i++) {
            x.flaw(0, 30 + i);
        }
        due.is("a place with a flaw", x.flaw(0, 35), -2);
        due.is("a place that is cut off", x.flaw(0, 21), -2);
        due.is("a place beyond the strip", x.flaw(0, 100), -2);
        due.is("a place that could be marked", x.flaw(0, 99), -3);
    }

    private static void errorsChangeNothing() {
        due.by("A call that returns an error changes nothing.");
        for (int error = 0; error < ERRORS; error++) {
            MosaicFloor x = worked(true);
            x.type(',');
            List<Integer> before = Due.look(x);
            due.is("error " + error + " is one", doError(x, error) < 0 ? 1 : 0, 1);
            due.same("all behind error " + error, Due.look(x), before);
            due.is("the text behind error " + error, x.fault(), 6);
        }
    }

    private static void errorsOfLimitsChangeNothing() {
        due.by("A call that returns an error changes nothing.");
        MosaicFloor x = Due.withStrips(100, 1, 1, 1, 1, 1, 1, 1, 1, 1, 1);
        x.set(0, 60);
        x.floor(3, 3);
        for (int i = 0; i < 6; i++) {
            x.flaw(0, 10 * i);
        }
        for (int i = 0; i < 80; i++) {
            x.type('1');
        }
        x.undo();
        x.flaw(0, 99);
        x.undo();
        x.flaw(0, 50);
        List<Integer> before = Due.look(x);
        due.is("an eleventh strip", x.strip(100, 2), -3);
        due.is("a seventh flaw", x.flaw(0, 60), -3);
        due.is("an 81st character", x.type('1'), -3);
        due.same("all behind limits", Due.look(x), before);
        due.is("the text", x.count(14), 80);
        due.is("the history", x.undo(), 4);
        due.is("the flaws before it", x.stripOf(0, 3), 5);
    }

    private static void errorsLeaveTheHistory() {
        due.by("A call that returns an error changes nothing.");
        MosaicFloor x = worked(true);
        MosaicFloor y = worked(true);
        x.type(',');
        for (int error = 0; error < ERRORS; error++) {
            doError(x, error);
        }
        for (int i = 0; i < 5; i++) {
            due.is("undo behind errors", x.undo(), y.undo());
            List<Integer> seen = new ArrayList<>();
            List<Integer> wanted = new ArrayList<>();
            for (int what = 6; what <= 26; what++) {
                if (what != 14) {
                    seen.add(x.count(what));
                    wanted.add(y.count(what));
                }
            }
            due.same("what was before change " + i, seen, wanted);
        }
        due.is("undo of nothing", x.undo(), -2);
        due.is("is an error that changes nothing", x.undo(), -2);
    }

    private static void noSuchCellIsInvalid() {
        due.by("If there is no cell [..] with certain numbers, this is INVALID_ARGUMENT.");
        MosaicFloor x = Due.withStrips(1000, 50);
        int[][] sides = {{6, 4}, {3, 12}, {12, 3}, {12, 12}, {3, 3}};
        for (int[] side : sides) {
            x.floor(side[0], side[1]);
            int[][] cells = {{side[0], 0}, {0, side[1]}, {side[0], side[1]}, {-1, 0}, {0, -1}, {-1, 1}, {1, -1}, {side[0], -1},
                {Integer.MAX_VALUE, 1}, {1, Integer.MAX_VALUE}, {Integer.MIN_VALUE, 1}, {1, Integer.MIN_VALUE}};
            for (int[] cell : cells) {
                String where = "(" + cell[0] + ", " + cell[1] + ") of " + side[0] + " by " + side[1];
                due.is("want " + where, x.want(cell[0], cell[1], 1), -1);
                due.is("cell " + where, x.cell(cell[0], cell[1], 0), -1);
                due.is("lay " + where, x.lay(cell[0], cell[1]), -1);
                due.is("lift " + where, x.lift(cell[0], cell[1]), -1);
                due.is("nearest " + where, x.nearest(cell[0], cell[1]), -1);
            }
        }
        x.floor(6, 4);
        due.is("a cell of a greater floor", x.lay(5, 3), 50);
        x.undo();
        x.undo();
        due.is("is none of a smaller one", x.cell(5, 3, 1), -1);
    }

    private static void noSuchStripIsInvalid() {
        due.by("If there is no [..] strip with certain numbers, this is INVALID_ARGUMENT.");
        MosaicFloor x = new MosaicFloor();
        for (int strips = 0; strips <= 10; strips++) {
            int[] wrong = {-1, strips, 10, 11, Integer.MIN_VALUE, Integer.MAX_VALUE};
            for (int strip : wrong) {
                due.is("flaw of " + strip + ", strips " + strips, x.flaw(strip, 5), -1);
                due.is("cut of " + strip + ", strips " + strips, x.cut(strip), -1);
                due.is("stripOf of " + strip + ", strips " + strips, x.stripOf(strip, 0), -1);
            }
            due.is("a strip more", x.strip(100, 1), strips < 10 ? strips : -3);
        }
        x.undo();
        due.is("a strip that was undone", x.cut(9), -1);
        due.is("the last one that is left", x.cut(8), 1);
    }

    private static void errorsAreNumbered() {
        due.by("The constants: `INVALID_ARGUMENT = -1` [..] `NOT_POSSIBLE = -2` [..] `LIMIT_REACHED = -3` [..] "
                + "`NOT_FOUND = -4`");
        due.is("INVALID_ARGUMENT", MosaicFloor.INVALID_ARGUMENT, -1);
        due.is("NOT_POSSIBLE", MosaicFloor.NOT_POSSIBLE, -2);
        due.is("LIMIT_REACHED", MosaicFloor.LIMIT_REACHED, -3);
        due.is("NOT_FOUND", MosaicFloor.NOT_FOUND, -4);
    }
}
