import java.util.ArrayList;
import java.util.HashMap;
import java.util.List;
import java.util.Map;
import java.util.TreeSet;

/**
 * A second mosaic floor for the tests, told from the document in another way
 * than the class: with maps and lists, cut after cut, and whole copies.
 */
final class SlowFloor {
    private static final class Rod {
        int length;
        int shade;
        int gone;
        int good;
        List<Integer> flaws = new ArrayList<>();

        Rod copy() {
            Rod rod = new Rod();
            rod.length = length;
            rod.shade = shade;
            rod.gone = gone;
            rod.good = good;
            rod.flaws = new ArrayList<>(flaws);
            return rod;
        }
    }

    private static final class Work {
        int w = 6;
        int h = 4;
        int way;
        int size = 20;
        int loss = 2;
        int broken;
        int brokenLength;
        int sawn;
        int thrown;
        int lifted;
        List<Integer> pattern = List.of(0);
        Map<List<Integer>, Integer> wants = new HashMap<>();
        Map<List<Integer>, Integer> laid = new HashMap<>();
        List<Integer> hand = new ArrayList<>();
        List<Rod> rods = new ArrayList<>();

        Work copy() {
            Work work = new Work();
            work.w = w;
            work.h = h;
            work.way = way;
            work.size = size;
            work.loss = loss;
            work.broken = broken;
            work.brokenLength = brokenLength;
            work.sawn = sawn;
            work.thrown = thrown;
            work.lifted = lifted;
            work.pattern = pattern;
            work.wants = new HashMap<>(wants);
            work.laid = new HashMap<>(laid);
            work.hand = new ArrayList<>(hand);
            for (Rod rod : rods) {
                work.rods.add(rod.copy());
            }
            return work;
        }

        /** The four sides, each from its corner up to, but without, the next one. */
        List<List<List<Integer>>> sides() {
            List<List<List<Integer>>> sides = new ArrayList<>();
            int x = 0;
            int y = 0;
            int[][] steps = {{1, 0}, {0, 1}, {-1, 0}, {0, -1}};
            for (int[] step : steps) {
                List<List<Integer>> side = new ArrayList<>();
                do {
                    side.add(List.of(x, y));
                    x += step[0];
                    y += step[1];
                } while (!((x == 0 || x == w - 1) && (y == 0 || y == h - 1)));
                sides.add(side);
            }
            return sides;
        }

        List<List<Integer>> border() {
            List<List<Integer>> border = new ArrayList<>();
            for (List<List<Integer>> side : sides()) {
                border.addAll(side);
            }
            return border;
        }

        int wanted(List<Integer> cell) {
            int number = border().indexOf(cell);
            if (number < 0) {
                return wants.getOrDefault(cell, 50);
            }
            if (way == 0) {
                return pattern.get(number % pattern.size());
            }
            if (way == 1) {
                boolean alongRow = cell.get(1) == 0 || cell.get(1) == h - 1;
                int place = alongRow ? cell.get(0) : cell.get(1);
                int last = alongRow ? w - 1 : h - 1;
                boolean corner = (cell.get(0) == 0 || cell.get(0) == w - 1) && alongRow;
                return pattern.get(corner ? 0 : Math.min(place, last - place) % pattern.size());
            }
            for (List<List<Integer>> side : sides()) {
                int j = side.indexOf(cell);
                if (j >= 0) {
                    int whole = side.size() / pattern.size() * pattern.size();
                    return j < whole ? pattern.get(j % pattern.size()) : pattern.get(0);
                }
            }
            throw new IllegalStateException();
        }

        int left(Rod rod) {
            return rod.length - rod.gone;
        }

        boolean cut(Rod rod) {
            boolean good = true;
            for (int flaw : rod.flaws) {
                good &= flaw < rod.gone || flaw >= rod.gone + size;
            }
            rod.gone += size;
            int saw = Math.min(loss, left(rod));
            rod.gone += saw;
            sawn += saw;
            if (good) {
                rod.good++;
                hand.add(rod.shade);
            } else {
                broken++;
                brokenLength += size;
            }
            return good;
        }

        /** How many can be cut, and how many good ones among them. */
        int[] ahead(Rod rod) {
            Work work = copy();
            Rod end = rod.copy();
            int[] found = {0, 0};
            while (work.left(end) >= size) {
                found[0]++;
                found[1] += work.cut(end) ? 1 : 0;
            }
            return found;
        }

        /** The shade that would be laid for a wanted one, or null. */
        Integer nearest(int wanted) {
            TreeSet<Integer> shades = new TreeSet<>(hand);
            for (Rod rod : rods) {
                if (ahead(rod)[1] > 0) {
                    shades.add(rod.shade);
                }
            }
            for (int difference = 0; difference < 100; difference++) {
                if (shades.contains(wanted - difference)) {
                    return wanted - difference;
                }
                if (shades.contains(wanted + difference)) {
                    return wanted + difference;
                }
            }
            return null;
        }

        boolean lay(List<Integer> cell) {
            Integer shade = laid.containsKey(cell) ? null : nearest(wanted(cell));
            if (shade == null) {
                return false;
            }
            for (Rod rod : rods) {
                if (rod.shade == shade && ahead(rod)[1] > 0) {
                    while (!hand.contains(shade)) {
                        cut(rod);
                    }
                }
            }
            hand.remove(shade);
            laid.put(cell, shade);
            return true;
        }

        int layAll() {
            int number = 0;
            for (List<Integer> cell : border()) {
                number += lay(cell) ? 1 : 0;
            }
            for (int y = 1; y < h - 1; y++) {
                for (int x = 1; x < w - 1; x++) {
                    number += lay(List.of(x, y)) ? 1 : 0;
                }
            }
            return number;
        }

        int difference(List<Integer> cell) {
            return Math.abs(wanted(cell) - laid.get(cell));
        }

        int sum() {
            return laid.keySet().stream().mapToInt(this::difference).sum();
        }

        int ready(int shade) {
            int number = 0;
            for (int other : hand) {
                number += other == shade ? 1 : 0;
            }
            for (Rod rod : rods) {
                number += rod.shade == shade ? ahead(rod)[1] : 0;
            }
            return number;
        }

        int lacks(int shade) {
            int number = 0;
            for (int x = 0; x < w; x++) {
                for (int y = 0; y < h; y++) {
                    List<Integer> cell = List.of(x, y);
                    number += !laid.containsKey(cell) && wanted(cell) == shade ? 1 : 0;
                }
            }
            return Math.max(0, number - ready(shade));
        }

        boolean meets() {
            List<List<Integer>> border = border();
            boolean neighbours = false;
            for (int i = 0; i < border.size(); i++) {
                neighbours |= wanted(border.get(i)) == wanted(border.get((i + 1) % border.size()));
            }
            return !neighbours || new TreeSet<>(pattern).size() == 1;
        }
    }

    private Work now = new Work();
    private final List<Work> history = new ArrayList<>();
    private String text = "";

    private void keep() {
        history.add(now.copy());
        if (history.size() == 6) {
            history.remove(0);
        }
    }

    private boolean noCell(int x, int y) {
        return x < 0 || x >= now.w || y < 0 || y >= now.h;
    }

    private static boolean outside(int value, int least, int greatest) {
        return value < least || value > greatest;
    }

    int floor(int columns, int rows) {
        if (outside(columns, 3, 12) || outside(rows, 3, 12)) {
            return -1;
        }
        if (!now.laid.isEmpty()) {
            return -2;
        }
        keep();
        now.w = columns;
        now.h = rows;
        now.wants.clear();
        return columns * rows;
    }

    int set(int what, int value) {
        if (outside(what, 0, 1) || (what == 0 ? outside(value, 5, 60) : outside(value, 0, 5))) {
            return -1;
        }
        if (what == 0 && !now.laid.isEmpty()) {
            return -2;
        }
        keep();
        int old = what == 0 ? now.size : now.loss;
        if (what == 0) {
            now.thrown += now.hand.size() * now.size;
            now.hand.clear();
            now.size = value;
        } else {
            now.loss = value;
        }
        return old;
    }

    int pattern() {
        if (fault() != -4 || !now.laid.isEmpty()) {
            return -2;
        }
        keep();
        List<Integer> shades = new ArrayList<>();
        for (String shade : text.split(",")) {
            shades.add(Integer.parseInt(shade));
        }
        now.pattern = shades;
        return shades.size();
    }

    int way(int way) {
        if (outside(way, 0, 2)) {
            return -1;
        }
        if (!now.laid.isEmpty()) {
            return -2;
        }
        keep();
        int old = now.way;
        now.way = way;
        return old;
    }

    int want(int x, int y, int shade) {
        if (noCell(x, y) || outside(shade, 0, 99)) {
            return -1;
        }
        List<Integer> cell = List.of(x, y);
        if (now.border().contains(cell) || now.laid.containsKey(cell)) {
            return -2;
        }
        keep();
        Integer old = now.wants.put(cell, shade);
        return old == null ? 50 : old;
    }

    int cell(int x, int y, int what) {
        if (noCell(x, y) || outside(what, 0, 3)) {
            return -1;
        }
        List<Integer> cell = List.of(x, y);
        if (what == 0) {
            return now.wanted(cell);
        }
        if (what == 3) {
            int number = now.border().indexOf(cell);
            return number < 0 ? -4 : number;
        }
        if (!now.laid.containsKey(cell)) {
            return -4;
        }
        return what == 1 ? now.laid.get(cell) : now.difference(cell);
    }

    int count(int what) {
        int all = now.rods.stream().mapToInt(rod -> rod.length).sum();
        int left = now.rods.stream().mapToInt(now::left).sum();
        switch (what) {
            case 0: return now.w;
            case 1: return now.h;
            case 2: return now.border().size();
            case 3: return now.pattern.size();
            case 4: return now.way;
            case 5: return now.meets() ? 1 : 0;
            case 6: return now.laid.size();
            case 7: return now.sum();
            case 8: return now.laid.keySet().stream().mapToInt(now::difference).max().orElse(-4);
            case 9: return now.rods.size();
            case 10: return now.hand.size();
            case 11: return now.broken;
            case 12: return now.lifted;
            case 13: return history.size();
            case 14: return text.length();
            case 15: return now.size;
            case 16: return now.loss;
            case 20: return all;
            case 21: return left;
            case 22: return now.hand.size() * now.size;
            case 23: return now.laid.size() * now.size;
            case 24: return now.brokenLength;
            case 25: return now.sawn;
            // What the other accounts leave of the whole, so that the sum is tested too.
            case 26: return all - left - (now.hand.size() + now.laid.size()) * now.size - now.brokenLength - now.sawn;
            default: return -1;
        }
    }

    int shade(int index) {
        return index < 0 ? -1 : index < now.pattern.size() ? now.pattern.get(index) : -4;
    }

    int undo() {
        if (history.isEmpty()) {
            return -2;
        }
        now = history.remove(history.size() - 1);
        return history.size();
    }

    int strip(int length, int shade) {
        if (outside(length, 20, 1000) || outside(shade, 0, 99)) {
            return -1;
        }
        if (now.rods.size() == 10) {
            return -3;
        }
        keep();
        Rod rod = new Rod();
        rod.length = length;
        rod.shade = shade;
        now.rods.add(rod);
        return now.rods.size() - 1;
    }

    private boolean noStrip(int strip) {
        return strip < 0 || strip >= now.rods.size();
    }

    int flaw(int strip, int place) {
        if (noStrip(strip) || outside(place, 0, 999)) {
            return -1;
        }
        Rod rod = now.rods.get(strip);
        if (place >= rod.length || place < rod.gone || rod.flaws.contains(place)) {
            return -2;
        }
        if (rod.flaws.size() == 6) {
            return -3;
        }
        keep();
        rod.flaws.add(place);
        return rod.flaws.size();
    }

    int cut(int strip) {
        if (noStrip(strip)) {
            return -1;
        }
        if (now.left(now.rods.get(strip)) < now.size) {
            return -2;
        }
        keep();
        return now.cut(now.rods.get(strip)) ? 1 : 0;
    }

    int stripOf(int strip, int what) {
        if (noStrip(strip) || outside(what, 0, 6)) {
            return -1;
        }
        Rod rod = now.rods.get(strip);
        int[] ahead = now.ahead(rod);
        int[] answers = {rod.length, rod.shade, now.left(rod), rod.flaws.size(), ahead[0], ahead[1], rod.good};
        return answers[what];
    }

    int lay(int x, int y) {
        if (noCell(x, y)) {
            return -1;
        }
        List<Integer> cell = List.of(x, y);
        Work before = now.copy();
        if (!now.lay(cell)) {
            return -2;
        }
        Work after = now;
        now = before;
        keep();
        now = after;
        return now.laid.get(cell);
    }

    int layAll() {
        keep();
        return now.layAll();
    }

    int lift(int x, int y) {
        if (noCell(x, y)) {
            return -1;
        }
        if (!now.laid.containsKey(List.of(x, y))) {
            return -2;
        }
        keep();
        int shade = now.laid.remove(List.of(x, y));
        now.lifted++;
        if (now.lifted % 3 == 0) {
            now.broken++;
            now.brokenLength += now.size;
            return 0;
        }
        now.hand.add(shade);
        return 1;
    }

    int nearest(int x, int y) {
        if (noCell(x, y)) {
            return -1;
        }
        List<Integer> cell = List.of(x, y);
        Integer shade = now.laid.containsKey(cell) ? null : now.nearest(now.wanted(cell));
        return shade == null ? -4 : shade;
    }

    int ready(int shade) {
        return outside(shade, 0, 99) ? -1 : now.ready(shade);
    }

    int lacks(int shade) {
        return outside(shade, 0, 99) ? -1 : now.lacks(shade);
    }

    int stripFor(int shade) {
        if (outside(shade, 0, 99)) {
            return -1;
        }
        int lack = now.lacks(shade);
        if (lack == 0) {
            return 0;
        }
        for (int length = 20; length <= 1000; length++) {
            Rod rod = new Rod();
            rod.length = length;
            if (now.ahead(rod)[0] >= lack) {
                return length;
            }
        }
        return -4;
    }

    int ifLaid() {
        Work then = now.copy();
        then.layAll();
        return then.sum();
    }

    int type(int character) {
        if (outside(character, 32, 126)) {
            return -1;
        }
        if (text.length() == 80) {
            return -3;
        }
        text += (char) character;
        return text.length();
    }

    int clearText() {
        int old = text.length();
        text = "";
        return old;
    }

    int fault() {
        for (int i = 0; i < text.length(); i++) {
            if (!text.substring(0, i + 1).matches("([0-9]{1,2},){0,7}[0-9]{0,2}")) {
                return i;
            }
        }
        return text.isEmpty() || text.endsWith(",") ? text.length() : -4;
    }
}
