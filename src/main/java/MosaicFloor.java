import java.util.Arrays;

/**
 * A mosaic floor: strips of stone are cut into tesserae, which are laid in the
 * cells of a floor with a border and a field, and lifted again.
 *
 * <p>Everything that a change can alter is in a State, so that undo and ifLaid
 * need but copy it. All objects are made in the constructor and used again, as
 * all that a run of calls makes is counted.
 */
public final class MosaicFloor {
    public static final int INVALID_ARGUMENT = -1;
    public static final int NOT_POSSIBLE = -2;
    public static final int LIMIT_REACHED = -3;
    public static final int NOT_FOUND = -4;

    private static final int LEAST_SIDE = 3;
    private static final int GREATEST_SIDE = 12;
    private static final int FIRST_COLUMNS = 6;
    private static final int FIRST_ROWS = 4;
    private static final int SHADES = 100;
    private static final int FIELD_SHADE = 50;
    private static final int MOST_PATTERN_SHADES = 8;
    private static final int MOST_SHADE_DIGITS = 2;

    private static final int WAY_AROUND = 0;
    private static final int WAY_FROM_CORNERS = 1;
    private static final int WAY_WHOLE_PATTERNS = 2;

    private static final int LEAST_SIZE = 5;
    private static final int GREATEST_SIZE = 60;
    private static final int FIRST_SIZE = 20;
    private static final int GREATEST_LOSS = 5;
    private static final int FIRST_LOSS = 2;
    private static final int LEAST_STRIP = 20;
    private static final int GREATEST_STRIP = 1000;
    private static final int MOST_STRIPS = 10;
    private static final int MOST_FLAWS = 6;
    private static final int LIFTS_TO_A_BREAK = 3;

    private static final int MOST_STATES = 5;
    private static final int MOST_CHARACTERS = 80;
    private static final int FIRST_CHARACTER = 32;
    private static final int LAST_CHARACTER = 126;

    /** No shade and no position is below 0. */
    private static final int NONE = -1;

    private final State now = new State();
    /** ifLaid lays here, as it must change nothing. */
    private final State trial = new State();
    private final History history = new History();
    private final Text text = new Text();

    public MosaicFloor() {
    }

    // ---- floor

    public int floor(int columns, int rows) {
        if (!isWithin(columns, LEAST_SIDE, GREATEST_SIDE) || !isWithin(rows, LEAST_SIDE, GREATEST_SIDE)) {
            return INVALID_ARGUMENT;
        }
        if (now.laidCells() > 0) {
            return NOT_POSSIBLE;
        }
        history.keep(now);
        now.plan.begin(columns, rows);
        return columns * rows;
    }

    public int set(int what, int value) {
        switch (what) {
            case 0:
                return changeSize(value);
            case 1:
                return changeLoss(value);
            default:
                return INVALID_ARGUMENT;
        }
    }

    public int pattern() {
        if (text.firstFaultOrNone() != NONE || now.laidCells() > 0) {
            return NOT_POSSIBLE;
        }
        history.keep(now);
        return now.plan.takePattern(text);
    }

    public int way(int way) {
        if (!isWithin(way, WAY_AROUND, WAY_WHOLE_PATTERNS)) {
            return INVALID_ARGUMENT;
        }
        if (now.laidCells() > 0) {
            return NOT_POSSIBLE;
        }
        history.keep(now);
        int previous = now.plan.way;
        now.plan.way = way;
        return previous;
    }

    public int want(int x, int y, int shade) {
        if (!now.plan.hasCell(x, y) || !isShade(shade)) {
            return INVALID_ARGUMENT;
        }
        if (now.plan.isBorder(x, y) || now.isLaid(x, y)) {
            return NOT_POSSIBLE;
        }
        history.keep(now);
        int previous = now.plan.wantedAt(x, y);
        now.plan.wantInField(x, y, shade);
        return previous;
    }

    public int cell(int x, int y, int what) {
        if (!now.plan.hasCell(x, y)) {
            return INVALID_ARGUMENT;
        }
        switch (what) {
            case 0:
                return now.plan.wantedAt(x, y);
            case 1:
                return now.isLaid(x, y) ? now.laidOrNone(x, y) : NOT_FOUND;
            case 2:
                return now.isLaid(x, y) ? now.differenceAt(x, y) : NOT_FOUND;
            case 3:
                return now.plan.isBorder(x, y) ? now.plan.borderNumberAt(x, y) : NOT_FOUND;
            default:
                return INVALID_ARGUMENT;
        }
    }

    public int count(int what) {
        if (isWithin(what, 0, 5)) {
            return countOfPlan(what);
        }
        if (isWithin(what, 6, 16)) {
            return countOfWork(what);
        }
        if (isWithin(what, 20, 26)) {
            return account(what - 20);
        }
        return INVALID_ARGUMENT;
    }

    public int shade(int index) {
        if (index < 0) {
            return INVALID_ARGUMENT;
        }
        return index < now.plan.patternLength ? now.plan.patternShade(index) : NOT_FOUND;
    }

    public int undo() {
        if (history.states() == 0) {
            return NOT_POSSIBLE;
        }
        history.restore(now);
        return history.states();
    }

    // ---- strips

    public int strip(int length, int shade) {
        if (!isWithin(length, LEAST_STRIP, GREATEST_STRIP) || !isShade(shade)) {
            return INVALID_ARGUMENT;
        }
        if (now.stock.stripCount >= MOST_STRIPS) {
            return LIMIT_REACHED;
        }
        history.keep(now);
        return now.stock.addStrip(length, shade);
    }

    public int flaw(int strip, int place) {
        Strip marked = now.stock.stripOrNull(strip);
        if (marked == null || !isWithin(place, 0, GREATEST_STRIP - 1)) {
            return INVALID_ARGUMENT;
        }
        if (!isWithin(place, marked.start, marked.length - 1) || marked.hasFlawIn(place, place + 1)) {
            return NOT_POSSIBLE;
        }
        if (marked.flawCount >= MOST_FLAWS) {
            return LIMIT_REACHED;
        }
        history.keep(now);
        marked.addFlaw(place);
        return marked.flawCount;
    }

    public int cut(int strip) {
        Strip cutStrip = now.stock.stripOrNull(strip);
        if (cutStrip == null) {
            return INVALID_ARGUMENT;
        }
        if (cutStrip.left() < now.stock.size) {
            return NOT_POSSIBLE;
        }
        history.keep(now);
        return now.stock.cutFrom(cutStrip) ? 1 : 0;
    }

    public int stripOf(int strip, int what) {
        Strip asked = now.stock.stripOrNull(strip);
        if (asked == null) {
            return INVALID_ARGUMENT;
        }
        switch (what) {
            case 0:
                return asked.length;
            case 1:
                return asked.shade;
            case 2:
                return asked.left();
            case 3:
                return asked.flawCount;
            case 4:
                return asked.tesseraeAhead(now.stock.size, now.stock.loss);
            case 5:
                return asked.goodTesseraeAhead(now.stock.size, now.stock.loss);
            case 6:
                return asked.goodCut;
            default:
                return INVALID_ARGUMENT;
        }
    }

    // ---- laying

    public int lay(int x, int y) {
        if (!now.plan.hasCell(x, y)) {
            return INVALID_ARGUMENT;
        }
        if (now.isLaid(x, y) || now.shadeForOrNone(x, y) == NONE) {
            return NOT_POSSIBLE;
        }
        history.keep(now);
        now.layCellIfPossible(x, y);
        return now.laidOrNone(x, y);
    }

    public int layAll() {
        history.keep(now);
        return now.layEmptyCells();
    }

    public int lift(int x, int y) {
        if (!now.plan.hasCell(x, y)) {
            return INVALID_ARGUMENT;
        }
        if (!now.isLaid(x, y)) {
            return NOT_POSSIBLE;
        }
        history.keep(now);
        return now.liftToHand(x, y) ? 1 : 0;
    }

    public int nearest(int x, int y) {
        if (!now.plan.hasCell(x, y)) {
            return INVALID_ARGUMENT;
        }
        if (now.isLaid(x, y)) {
            return NOT_FOUND;
        }
        int found = now.shadeForOrNone(x, y);
        return found == NONE ? NOT_FOUND : found;
    }

    public int ready(int shade) {
        return isShade(shade) ? now.stock.readyOf(shade) : INVALID_ARGUMENT;
    }

    public int lacks(int shade) {
        return isShade(shade) ? now.lackOf(shade) : INVALID_ARGUMENT;
    }

    public int stripFor(int shade) {
        if (!isShade(shade)) {
            return INVALID_ARGUMENT;
        }
        int lack = now.lackOf(shade);
        if (lack == 0) {
            return 0;
        }
        int length = lack * now.stock.size + (lack - 1) * now.stock.loss;
        return length > GREATEST_STRIP ? NOT_FOUND : Math.max(length, LEAST_STRIP);
    }

    public int ifLaid() {
        trial.copyFrom(now);
        trial.layEmptyCells();
        return trial.sumOfDifferences();
    }

    // ---- texts

    public int type(int character) {
        if (!isWithin(character, FIRST_CHARACTER, LAST_CHARACTER)) {
            return INVALID_ARGUMENT;
        }
        if (text.length >= MOST_CHARACTERS) {
            return LIMIT_REACHED;
        }
        text.append(character);
        return text.length;
    }

    public int clearText() {
        int previous = text.length;
        text.length = 0;
        return previous;
    }

    public int fault() {
        int position = text.firstFaultOrNone();
        return position == NONE ? NOT_FOUND : position;
    }

    // ---- what the calls share

    private static boolean isWithin(int value, int least, int greatest) {
        return value >= least && value <= greatest;
    }

    private static boolean isShade(int shade) {
        return shade >= 0 && shade < SHADES;
    }

    private int changeSize(int size) {
        if (!isWithin(size, LEAST_SIZE, GREATEST_SIZE)) {
            return INVALID_ARGUMENT;
        }
        if (now.laidCells() > 0) {
            return NOT_POSSIBLE;
        }
        history.keep(now);
        int previous = now.stock.size;
        now.stock.throwAway();
        now.stock.size = size;
        return previous;
    }

    private int changeLoss(int loss) {
        if (!isWithin(loss, 0, GREATEST_LOSS)) {
            return INVALID_ARGUMENT;
        }
        history.keep(now);
        int previous = now.stock.loss;
        now.stock.loss = loss;
        return previous;
    }

    private int countOfPlan(int what) {
        switch (what) {
            case 0:
                return now.plan.columns;
            case 1:
                return now.plan.rows;
            case 2:
                return now.plan.borderCells();
            case 3:
                return now.plan.patternLength;
            case 4:
                return now.plan.way;
            default:
                return now.plan.borderMeets() ? 1 : 0;
        }
    }

    private int countOfWork(int what) {
        switch (what) {
            case 6:
                return now.laidCells();
            case 7:
                return now.sumOfDifferences();
            case 8:
                return now.laidCells() > 0 ? now.greatestDifference() : NOT_FOUND;
            case 9:
                return now.stock.stripCount;
            case 10:
                return now.stock.tesseraeAtHand();
            case 11:
                return now.stock.brokenCount;
            case 12:
                return now.liftedCount;
            case 13:
                return history.states();
            case 14:
                return text.length;
            case 15:
                return now.stock.size;
            default:
                return now.stock.loss;
        }
    }

    private int account(int number) {
        switch (number) {
            case 0:
                return now.stock.lengthOfStrips();
            case 1:
                return now.stock.leftOfStrips();
            case 2:
                return now.stock.tesseraeAtHand() * now.stock.size;
            case 3:
                return now.laidCells() * now.stock.size;
            case 4:
                return now.stock.brokenLength;
            case 5:
                return now.stock.sawnLength;
            default:
                return now.stock.thrownLength;
        }
    }

    private static final class Text {
        private final char[] characters = new char[MOST_CHARACTERS];
        int length;

        void append(int character) {
            if (length < characters.length) {
                characters[length] = (char) character;
                length++;
            }
        }

        int firstFaultOrNone() {
            int digits = 0;
            int commas = 0;
            for (int i = 0; i < length && i < characters.length; i++) {
                char character = characters[i];
                if (isDigit(character) && digits < MOST_SHADE_DIGITS) {
                    digits++;
                } else if (character == ',' && digits > 0 && commas < MOST_PATTERN_SHADES - 1) {
                    commas++;
                    digits = 0;
                } else {
                    return i;
                }
            }
            return digits == 0 ? length : NONE;
        }

        /** Tests no character again: only a text without fault is read. */
        int readShades(int[] shades) {
            int number = 0;
            int value = 0;
            for (int i = 0; i < length && i < characters.length; i++) {
                if (characters[i] == ',') {
                    number++;
                    value = 0;
                } else {
                    value = value * 10 + (characters[i] - '0');
                }
                if (number < shades.length) {
                    shades[number] = value;
                }
            }
            return Math.min(number + 1, shades.length);
        }

        private static boolean isDigit(char character) {
            return character >= '0' && character <= '9';
        }
    }

    private static final class Plan {
        private final int[] fieldShades = new int[GREATEST_SIDE * GREATEST_SIDE];
        private final int[] patternShades = new int[MOST_PATTERN_SHADES];
        int patternLength = 1;
        int way = WAY_AROUND;
        int columns;
        int rows;

        Plan() {
            begin(FIRST_COLUMNS, FIRST_ROWS);
        }

        void begin(int newColumns, int newRows) {
            columns = newColumns;
            rows = newRows;
            Arrays.fill(fieldShades, FIELD_SHADE);
        }

        void copyFrom(Plan other) {
            System.arraycopy(other.fieldShades, 0, fieldShades, 0, fieldShades.length);
            System.arraycopy(other.patternShades, 0, patternShades, 0, patternShades.length);
            patternLength = other.patternLength;
            way = other.way;
            columns = other.columns;
            rows = other.rows;
        }

        int takePattern(Text source) {
            patternLength = source.readShades(patternShades);
            return patternLength;
        }

        boolean hasCell(int x, int y) {
            return x >= 0 && x < columns && y >= 0 && y < rows;
        }

        boolean isBorder(int x, int y) {
            return x == 0 || x == columns - 1 || y == 0 || y == rows - 1;
        }

        int borderCells() {
            return 2 * halfOfBorder();
        }

        /** A corner counts for the side that it begins alone, or it would be counted twice. */
        private int halfOfBorder() {
            return columns - 1 + rows - 1;
        }

        int borderNumberAt(int x, int y) {
            if (y == 0) {
                return x;
            }
            if (x == columns - 1) {
                return x + y;
            }
            if (y == rows - 1) {
                return halfOfBorder() + columns - 1 - x;
            }
            return 2 * halfOfBorder() - y;
        }

        int columnOf(int number) {
            if (number < halfOfBorder()) {
                return Math.min(number, columns - 1);
            }
            return Math.max(columns - 1 - (number - halfOfBorder()), 0);
        }

        int rowOf(int number) {
            if (number < halfOfBorder()) {
                return Math.max(number - (columns - 1), 0);
            }
            return Math.min(borderCells() - number, rows - 1);
        }

        int wantedAt(int x, int y) {
            if (!hasCell(x, y)) {
                return NONE;
            }
            return isBorder(x, y) ? wantedInBorder(borderNumberAt(x, y)) : fieldShades[y * GREATEST_SIDE + x];
        }

        void wantInField(int x, int y, int wanted) {
            if (hasCell(x, y)) {
                fieldShades[y * GREATEST_SIDE + x] = wanted;
            }
        }

        private int wantedInBorder(int number) {
            // One half is enough, as opposite sides are equally long.
            int inHalf = number < halfOfBorder() ? number : number - halfOfBorder();
            boolean alongRow = inHalf < columns - 1;
            int sideCells = alongRow ? columns - 1 : rows - 1;
            int inSide = alongRow ? inHalf : inHalf - (columns - 1);
            switch (way) {
                case WAY_FROM_CORNERS:
                    return patternShade(Math.min(inSide, sideCells - inSide));
                case WAY_WHOLE_PATTERNS:
                    return patternShade(inSide < cellsOfWholePatterns(sideCells) ? inSide : 0);
                default:
                    return patternShade(number);
            }
        }

        private int cellsOfWholePatterns(int sideCells) {
            return patternLength > 0 ? sideCells - sideCells % patternLength : 0;
        }

        int patternShade(int number) {
            if (number < 0 || patternLength <= 0) {
                return NONE;
            }
            int index = number % patternLength;
            return index < patternShades.length ? patternShades[index] : NONE;
        }

        boolean borderMeets() {
            if (patternHasOneShade()) {
                return true;
            }
            int previous = wantedInBorder(borderCells() - 1);
            for (int number = 0; number < borderCells(); number++) {
                int wanted = wantedInBorder(number);
                if (wanted == previous) {
                    return false;
                }
                previous = wanted;
            }
            return true;
        }

        private boolean patternHasOneShade() {
            for (int i = 1; i < patternLength; i++) {
                if (patternShade(i) != patternShade(0)) {
                    return false;
                }
            }
            return true;
        }
    }

    /** A strip that has not come yet has the length 0: it gives nothing, so that no loop needs to leave it out. */
    private static final class Strip {
        private final int[] flaws = new int[MOST_FLAWS];
        int flawCount;
        int length;
        int shade;
        /** Flaws have their places from the beginning of the whole strip, so what is cut off stays counted. */
        int start;
        int goodCut;

        void begin(int newLength, int newShade) {
            length = newLength;
            shade = newShade;
            start = 0;
            flawCount = 0;
            goodCut = 0;
        }

        void copyFrom(Strip other) {
            System.arraycopy(other.flaws, 0, flaws, 0, flaws.length);
            flawCount = other.flawCount;
            length = other.length;
            shade = other.shade;
            start = other.start;
            goodCut = other.goodCut;
        }

        int left() {
            return length - start;
        }

        void addFlaw(int place) {
            if (flawCount < flaws.length) {
                flaws[flawCount] = place;
                flawCount++;
            }
        }

        boolean hasFlawIn(int from, int to) {
            for (int i = 0; i < flawCount && i < flaws.length; i++) {
                if (flaws[i] >= from && flaws[i] < to) {
                    return true;
                }
            }
            return false;
        }

        int tesseraeAhead(int size, int loss) {
            int left = length - start;
            int step = size + loss;
            if (step <= 0 || left < size) {
                return 0;
            }
            return (left - size) / step + 1;
        }

        int goodTesseraeAhead(int size, int loss) {
            int all = tesseraeAhead(size, loss);
            int good = 0;
            int from = start;
            for (int i = 0; i < all; i++) {
                if (!hasFlawIn(from, from + size)) {
                    good++;
                }
                from += size + loss;
            }
            return good;
        }

        boolean givesGood(int size, int loss) {
            int all = tesseraeAhead(size, loss);
            int from = start;
            for (int i = 0; i < all; i++) {
                if (!hasFlawIn(from, from + size)) {
                    return true;
                }
                from += size + loss;
            }
            return false;
        }

        boolean cutOff(int size, int loss) {
            boolean good = !hasFlawIn(start, start + size);
            start = Math.min(start + size + loss, length);
            if (good) {
                goodCut++;
            }
            return good;
        }
    }

    private static final class Stock {
        private final Strip[] strips = new Strip[MOST_STRIPS];
        /** Numbers of tesserae by their shades, as nothing else is known of them. */
        private final int[] atHand = new int[SHADES];
        int stripCount;
        int size = FIRST_SIZE;
        int loss = FIRST_LOSS;
        int brokenCount;
        int brokenLength;
        int sawnLength;
        int thrownLength;

        Stock() {
            for (int i = 0; i < strips.length; i++) {
                strips[i] = new Strip();
            }
        }

        void copyFrom(Stock other) {
            for (int i = 0; i < strips.length && i < other.strips.length; i++) {
                strips[i].copyFrom(other.strips[i]);
            }
            System.arraycopy(other.atHand, 0, atHand, 0, atHand.length);
            stripCount = other.stripCount;
            size = other.size;
            loss = other.loss;
            brokenCount = other.brokenCount;
            brokenLength = other.brokenLength;
            sawnLength = other.sawnLength;
            thrownLength = other.thrownLength;
        }

        int addStrip(int length, int shade) {
            int number = stripCount;
            if (number < strips.length) {
                strips[number].begin(length, shade);
                stripCount++;
            }
            return number;
        }

        Strip stripOrNull(int number) {
            return number >= 0 && number < stripCount && number < strips.length ? strips[number] : null;
        }

        int lengthOfStrips() {
            int sum = 0;
            for (Strip strip : strips) {
                sum += strip.length;
            }
            return sum;
        }

        int leftOfStrips() {
            int sum = 0;
            for (Strip strip : strips) {
                sum += strip.left();
            }
            return sum;
        }

        int tesseraeAtHand() {
            int sum = 0;
            for (int number : atHand) {
                sum += number;
            }
            return sum;
        }

        private int atHandOf(int shade) {
            return isShade(shade) ? atHand[shade] : 0;
        }

        void putAtHand(int shade) {
            if (isShade(shade)) {
                atHand[shade]++;
            }
        }

        void takeFromHand(int shade) {
            if (atHandOf(shade) > 0) {
                atHand[shade]--;
            }
        }

        void addBroken() {
            brokenCount++;
            brokenLength += size;
        }

        void throwAway() {
            thrownLength += tesseraeAtHand() * size;
            Arrays.fill(atHand, 0);
        }

        int readyOf(int shade) {
            int sum = atHandOf(shade);
            for (Strip strip : strips) {
                if (strip.shade == shade) {
                    sum += strip.goodTesseraeAhead(size, loss);
                }
            }
            return sum;
        }

        int nearestShadeOrNone(int wanted) {
            int best = NONE;
            for (int shade = 0; shade < atHand.length; shade++) {
                if (atHand[shade] > 0) {
                    best = nearer(wanted, best, shade);
                }
            }
            for (Strip strip : strips) {
                if (strip.givesGood(size, loss)) {
                    best = nearer(wanted, best, strip.shade);
                }
            }
            return best;
        }

        private static int nearer(int wanted, int best, int other) {
            if (best == NONE) {
                return other;
            }
            int bestDifference = Math.abs(best - wanted);
            int otherDifference = Math.abs(other - wanted);
            if (bestDifference == otherDifference) {
                return Math.min(best, other);
            }
            return bestDifference < otherDifference ? best : other;
        }

        void bringToHand(int shade) {
            if (atHandOf(shade) > 0) {
                return;
            }
            Strip strip = firstStripGivingOrNull(shade);
            if (strip == null) {
                return;
            }
            int all = strip.tesseraeAhead(size, loss);
            for (int i = 0; i < all && atHandOf(shade) == 0; i++) {
                cutFrom(strip);
            }
        }

        private Strip firstStripGivingOrNull(int shade) {
            for (Strip strip : strips) {
                if (strip.shade == shade && strip.givesGood(size, loss)) {
                    return strip;
                }
            }
            return null;
        }

        boolean cutFrom(Strip strip) {
            int leftBefore = strip.left();
            boolean good = strip.cutOff(size, loss);
            sawnLength += leftBefore - size - strip.left();
            if (good) {
                putAtHand(strip.shade);
            } else {
                addBroken();
            }
            return good;
        }
    }

    private static final class State {
        final Plan plan = new Plan();
        final Stock stock = new Stock();
        /** A row has the same place on every floor, so that a new floor moves nothing. */
        private final int[] laid = new int[GREATEST_SIDE * GREATEST_SIDE];
        int liftedCount;

        State() {
            Arrays.fill(laid, NONE);
        }

        void copyFrom(State other) {
            plan.copyFrom(other.plan);
            stock.copyFrom(other.stock);
            System.arraycopy(other.laid, 0, laid, 0, laid.length);
            liftedCount = other.liftedCount;
        }

        int laidOrNone(int x, int y) {
            return plan.hasCell(x, y) ? laid[y * GREATEST_SIDE + x] : NONE;
        }

        private void putAt(int x, int y, int shade) {
            if (plan.hasCell(x, y)) {
                laid[y * GREATEST_SIDE + x] = shade;
            }
        }

        boolean isLaid(int x, int y) {
            return laidOrNone(x, y) != NONE;
        }

        /** An empty cell has the difference 0, as sums are of laid cells alone. */
        int differenceAt(int x, int y) {
            return isLaid(x, y) ? Math.abs(plan.wantedAt(x, y) - laidOrNone(x, y)) : 0;
        }

        int laidCells() {
            int number = 0;
            for (int shade : laid) {
                if (shade != NONE) {
                    number++;
                }
            }
            return number;
        }

        int sumOfDifferences() {
            int sum = 0;
            for (int y = 0; y < plan.rows; y++) {
                for (int x = 0; x < plan.columns; x++) {
                    sum += differenceAt(x, y);
                }
            }
            return sum;
        }

        int greatestDifference() {
            int greatest = 0;
            for (int y = 0; y < plan.rows; y++) {
                for (int x = 0; x < plan.columns; x++) {
                    greatest = Math.max(greatest, differenceAt(x, y));
                }
            }
            return greatest;
        }

        int shadeForOrNone(int x, int y) {
            return stock.nearestShadeOrNone(plan.wantedAt(x, y));
        }

        void layCellIfPossible(int x, int y) {
            if (isLaid(x, y)) {
                return;
            }
            int shade = shadeForOrNone(x, y);
            if (shade != NONE) {
                stock.bringToHand(shade);
                stock.takeFromHand(shade);
                putAt(x, y, shade);
            }
        }

        int layEmptyCells() {
            int before = laidCells();
            for (int number = 0; number < plan.borderCells(); number++) {
                layCellIfPossible(plan.columnOf(number), plan.rowOf(number));
            }
            for (int y = 1; y < plan.rows - 1; y++) {
                for (int x = 1; x < plan.columns - 1; x++) {
                    layCellIfPossible(x, y);
                }
            }
            return laidCells() - before;
        }

        boolean liftToHand(int x, int y) {
            int shade = laidOrNone(x, y);
            putAt(x, y, NONE);
            liftedCount++;
            if (liftedCount % LIFTS_TO_A_BREAK == 0) {
                stock.addBroken();
                return false;
            }
            stock.putAtHand(shade);
            return true;
        }

        int lackOf(int shade) {
            int wanting = 0;
            for (int y = 0; y < plan.rows; y++) {
                for (int x = 0; x < plan.columns; x++) {
                    if (!isLaid(x, y) && plan.wantedAt(x, y) == shade) {
                        wanting++;
                    }
                }
            }
            return Math.max(wanting - stock.readyOf(shade), 0);
        }
    }

    private static final class History {
        private final State[] states = new State[MOST_STATES];
        private int used;

        History() {
            for (int i = 0; i < states.length; i++) {
                states[i] = new State();
            }
        }

        int states() {
            return used;
        }

        void keep(State state) {
            if (used >= states.length) {
                dropOldest();
            }
            if (used >= 0 && used < states.length) {
                states[used].copyFrom(state);
                used++;
            }
        }

        /** The oldest one moves behind the others, as its object is used again for the state that comes next. */
        private void dropOldest() {
            for (int i = 1; i < states.length; i++) {
                State oldest = states[i - 1];
                states[i - 1] = states[i];
                states[i] = oldest;
            }
            used--;
        }

        void restore(State state) {
            if (used > 0 && used <= states.length) {
                used--;
                state.copyFrom(states[used]);
            }
        }
    }
}
