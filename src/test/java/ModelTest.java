/** Runs of mixed calls, each answer compared with the one of the slow floor. */
final class ModelTest {
    private static final int RUNS = 1000;
    /** The document promises 512 calls; one step of a run takes up to 150 of them. */
    private static final int CALLS = 512 - 150;

    private static long seed = 1;
    private static int calls;
    private static int errors;
    private static int wrong;

    public static void main(String[] args) {
        int allCalls = 0;
        for (int run = 0; run < RUNS && wrong == 0; run++) {
            MosaicFloor x = new MosaicFloor();
            SlowFloor y = new SlowFloor();
            calls = 0;
            while (calls < CALLS && wrong == 0) {
                oneStep(run, x, y);
            }
            allCalls += calls;
        }
        System.out.println("ModelTest: " + allCalls + " calls, " + errors + " of them errors, " + wrong + " not as due");
        if (wrong > 0) {
            System.exit(1);
        }
    }

    /** A number from 0 to bound - 1; the same row of numbers in each run of the test. */
    private static int below(int bound) {
        seed = seed * 6364136223846793005L + 1442695040888963407L;
        return (int) ((seed >>> 33) % bound);
    }

    /** A number mostly in its range, but now and then just or far outside of it. */
    private static int around(int least, int greatest) {
        switch (below(60)) {
            case 0: return least - 1;
            case 1: return greatest + 1;
            case 2: return below(2) == 0 ? Integer.MIN_VALUE : Integer.MAX_VALUE;
            case 3: return least;
            case 4: return greatest;
            default: return least + below(greatest - least + 1);
        }
    }

    private static int oneStep(int run, MosaicFloor x, SlowFloor y) {
        int column = around(0, y.count(0) - 1);
        int row = around(0, y.count(1) - 1);
        int strip = around(0, Math.max(y.count(9) - 1, 0));
        int shade = below(3) == 0 ? y.shade(below(y.count(3))) : below(2) == 0 ? 50 : around(0, 99);
        switch (below(run % 2 == 0 ? 36 : 50)) {
            case 0: return below(3) > 0 ? 0 : same("layAll", x.layAll(), y.layAll());
            case 1: return floor(x, y);
            case 2: return set(x, y, 0, below(3) == 0 ? around(5, 60) : around(5, 20));
            case 3: return set(x, y, 1, around(0, 5));
            case 4: return set(x, y, around(0, 1), around(0, 60));
            case 5: return pattern(x, y);
            case 6: return way(x, y);
            case 7:
            case 8: return same("want", x.want(column, row, shade), y.want(column, row, shade));
            case 9:
            case 10:
                int what = around(0, 3);
                return same("cell", x.cell(column, row, what), y.cell(column, row, what));
            case 11: return look(x, y);
            case 12:
                int index = around(0, 8);
                return same("shade", x.shade(index), y.shade(index));
            case 13: return same("undo", x.undo(), y.undo());
            case 14:
            case 15:
                int length = below(3) == 0 ? around(20, 1000) : around(20, 150);
                return same("strip", x.strip(length, shade), y.strip(length, shade));
            case 16:
            case 17:
            case 18:
                int place = below(3) == 0 ? around(0, 999) : around(0, 100);
                return same("flaw", x.flaw(strip, place), y.flaw(strip, place));
            case 19:
            case 20: return same("cut", x.cut(strip), y.cut(strip));
            case 21:
            case 22:
                int asked = around(0, 6);
                return same("stripOf", x.stripOf(strip, asked), y.stripOf(strip, asked));
            case 23:
            case 24:
            case 25: return same("lay", x.lay(column, row), y.lay(column, row));
            case 26: return same("nearest", x.nearest(column, row), y.nearest(column, row));
            case 27: return same("ready", x.ready(shade), y.ready(shade));
            case 28: return same("lacks", x.lacks(shade), y.lacks(shade));
            case 29: return same("stripFor", x.stripFor(shade), y.stripFor(shade));
            case 30: return same("ifLaid", x.ifLaid(), y.ifLaid());
            case 31: return typeSome(x, y);
            case 32: return same("clearText", x.clearText(), y.clearText());
            case 33: return same("fault", x.fault(), y.fault());
            default: return same("lift", x.lift(column, row), y.lift(column, row));
        }
    }

    private static int same(String call, int got, int due) {
        calls++;
        errors += due < 0 ? 1 : 0;
        if (got != due) {
            wrong++;
            System.out.println("ModelTest: " + call + " answered " + got + ", due is " + due);
        }
        return got;
    }

    /** Lifts all that is laid, now and then, as little can be changed before. */
    private static void empty(MosaicFloor x, SlowFloor y) {
        for (int row = 0; row < y.count(1); row++) {
            for (int column = 0; column < y.count(0); column++) {
                same("lift", x.lift(column, row), y.lift(column, row));
            }
        }
    }

    private static int floor(MosaicFloor x, SlowFloor y) {
        if (below(3) == 0) {
            empty(x, y);
        }
        int columns = around(3, below(4) == 0 ? 12 : 6);
        int rows = around(3, below(4) == 0 ? 12 : 6);
        return same("floor", x.floor(columns, rows), y.floor(columns, rows));
    }

    private static int set(MosaicFloor x, SlowFloor y, int what, int value) {
        return same("set", x.set(what, value), y.set(what, value));
    }

    private static int way(MosaicFloor x, SlowFloor y) {
        int way = around(0, 2);
        return same("way", x.way(way), y.way(way));
    }

    private static int pattern(MosaicFloor x, SlowFloor y) {
        same("clearText", x.clearText(), y.clearText());
        int shades = around(1, 9);
        for (int i = 0; i < Math.min(shades, 9); i++) {
            if (i > 0) {
                typeOne(x, y, ',');
            }
            typeOne(x, y, '0' + below(10));
            if (below(2) == 0) {
                typeOne(x, y, '0' + below(10));
            }
        }
        return same("pattern", x.pattern(), y.pattern());
    }

    private static int typeSome(MosaicFloor x, SlowFloor y) {
        int number = below(4);
        for (int i = 0; i < number; i++) {
            typeOne(x, y, below(3) == 0 ? ',' : '0' + below(11));
        }
        same("fault", x.fault(), y.fault());
        return typeOne(x, y, around(32, 126));
    }

    private static int typeOne(MosaicFloor x, SlowFloor y, int character) {
        return same("type", x.type(character), y.type(character));
    }

    private static int look(MosaicFloor x, SlowFloor y) {
        for (int what = -1; what <= 27; what++) {
            same("count " + what, x.count(what), y.count(what));
        }
        return 0;
    }
}
