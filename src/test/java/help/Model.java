import java.util.ArrayList;
import java.util.Arrays;
import java.util.Collections;
import java.util.HashMap;
import java.util.HashSet;
import java.util.List;
import java.util.Map;
import java.util.NoSuchElementException;
import java.util.Set;
import java.util.TreeSet;
import java.util.regex.Matcher;
import java.util.regex.Pattern;

/** The document once more, hair by hair and without a thought for speed: what HeadRows is held against. */
final class Model {
    private static final int[] DX = {0, 0, -1, 1};
    private static final int[] DY = {-1, 1, 0, 0};
    private static final List<String> WAYS = List.of("up", "down", "left", "right");

    private record Token(String text, int place, boolean good) {
    }

    private record Point(int x, int y) {
    }

    private record Way(int where, int far) {
    }

    private record Line(boolean isRow, Point from, List<Way> ways) {
    }

    private record Added(int row, int step, int hairs, int mm) {
    }

    private static final class RowMade {
        final List<Point> cells;
        int week = -1;
        Set<Integer> joined = null;

        RowMade(List<Point> cells) {
            this.cells = cells;
        }
    }

    private record Kept(int partings, int rows) {
    }

    private record Hair(int step, int reach) {
    }

    private static final class Fault extends RuntimeException {
        private static final long serialVersionUID = 1;
        final int told;

        Fault(int told) {
            this.told = told;
        }
    }

    private final int[][] hairs = new int[16][12];
    private int mm = 200;
    private int week = 0;
    private String tape = "";
    private List<Set<Set<Point>>> partings = new ArrayList<>();
    private List<RowMade> rows = new ArrayList<>();
    private final List<Kept> kept = new ArrayList<>();
    private final List<Added> added = new ArrayList<>();
    private int joins = 0;
    private List<Integer> speeds = List.of(1);

    Model() {
        for (int[] column : hairs) {
            Arrays.fill(column, 10);
        }
    }

    // ---- head

    private static boolean isCell(int x, int y) {
        return x >= 0 && x <= 15 && y >= 0 && y <= 11;
    }

    private boolean scalp(int x, int y) {
        return isCell(x, y) && hairs[x][y] >= 0;
    }

    private boolean bare() {
        return partings.isEmpty() && rows.isEmpty() && week == 0;
    }

    boolean cell(int x, int y, int n) {
        if (!isCell(x, y) || n < -1 || n > 99 || !bare()) {
            return false;
        }
        hairs[x][y] = n;
        regionMap = null;
        return true;
    }

    boolean length(int n) {
        if (n < 20 || n > 2000 || !bare()) {
            return false;
        }
        mm = n;
        return true;
    }

    // ---- programs

    int feed(long a, long b, long c) {
        for (long v : new long[] {a, b, c}) {
            for (int n = 7; n >= 0; n--) {
                char sign = (char) ((v >> (8 * n)) & 0xff);
                if ((sign == 10 || sign >= 32 && sign <= 126) && tape.length() < 1000) {
                    tape += sign;
                }
            }
        }
        return tape.length();
    }

    private List<Token> tokens;
    private int at;

    private static List<Token> split(String text) {
        List<Token> found = new ArrayList<>();
        Matcher m = Pattern.compile("[ \n]+|([a-z]+)|([0-9]+)|([();])|(.)", Pattern.DOTALL).matcher(text);
        while (m.find()) {
            if (m.group(1) != null) {
                found.add(new Token(m.group(), m.start(), m.group().length() <= 8));
            } else if (m.group(2) != null) {
                found.add(new Token(m.group(), m.start(), m.group().length() <= 2));
            } else if (m.group(3) != null) {
                found.add(new Token(m.group(), m.start(), true));
            } else if (m.group(4) != null) {
                found.add(new Token(m.group(), m.start(), false));
            }
        }
        found.add(new Token("", text.length(), true));
        return found;
    }

    private Token token() {
        return tokens.get(at);
    }

    private Fault fault(int kind) {
        return new Fault(kind + 16 * token().place);
    }

    private boolean stands(String text) {
        return token().good && token().text.equals(text);
    }

    private void want(String text) {
        if (!stands(text)) {
            throw fault(1);
        }
        at++;
    }

    private int number(int least, int most) {
        if (!token().good || !token().text.matches("[0-9]+")) {
            throw fault(1);
        }
        int n = Integer.parseInt(token().text);
        if (n < least || n > most) {
            throw fault(4);
        }
        at++;
        return n;
    }

    private Way way() {
        int where = WAYS.indexOf(token().text);
        if (where < 0 || !token().good) {
            throw fault(1);
        }
        at++;
        return new Way(where, number(0, 16));
    }

    private List<Line> steps(int depth) {
        List<Line> lines = new ArrayList<>();
        while (true) {
            if (stands("part") || stands("row")) {
                boolean isRow = stands("row");
                at++;
                int x = number(0, isRow ? 15 : 16);
                int y = number(0, isRow ? 11 : 12);
                List<Way> ways = new ArrayList<>();
                do {
                    ways.add(way());
                } while (!stands(";"));
                at++;
                lines.add(new Line(isRow, new Point(x, y), ways));
            } else if (stands("again") || stands("mirror")) {
                if (depth == 4) {
                    throw fault(5);
                }
                boolean isAgain = stands("again");
                at++;
                int times = isAgain ? number(1, 9) : 1;
                Way way = isAgain ? way() : null;
                want("(");
                List<Line> inner = steps(depth + 1);
                want(")");
                want(";");
                lines.addAll(inner);
                for (int n = 1; n < times; n++) {
                    for (Line line : inner) {
                        lines.add(moved(line, n * way.far * DX[way.where], n * way.far * DY[way.where]));
                    }
                }
                if (!isAgain) {
                    for (Line line : inner) {
                        lines.add(mirrored(line));
                    }
                }
            } else if (depth > 0 && stands(")") || depth == 0 && stands("")) {
                return lines;
            } else {
                throw fault(1);
            }
        }
    }

    private static Line moved(Line line, int dx, int dy) {
        return new Line(line.isRow, new Point(line.from.x + dx, line.from.y + dy), line.ways);
    }

    private static Line mirrored(Line line) {
        List<Way> ways = new ArrayList<>();
        for (Way way : line.ways) {
            ways.add(new Way(way.where == 2 ? 3 : way.where == 3 ? 2 : way.where, way.far));
        }
        return new Line(line.isRow, new Point((line.isRow ? 15 : 16) - line.from.x, line.from.y), ways);
    }

    int draw() {
        tokens = split(tape);
        tape = "";
        at = 0;
        List<Line> lines;
        try {
            lines = steps(0);
        } catch (Fault f) {
            return f.told;
        }
        List<Set<Set<Point>>> oldPartings = new ArrayList<>(partings);
        List<RowMade> oldRows = new ArrayList<>(rows);
        int drawn = 0;
        regionMap = null;
        for (Line line : lines) {
            int reason = line.isRow ? row(line) : part(line);
            if (reason > 0) {
                partings = oldPartings;
                rows = oldRows;
                return -1 - (reason + 16 * drawn);
            }
            drawn++;
        }
        if (drawn > 0) {
            kept.add(new Kept(oldPartings.size(), oldRows.size()));
        }
        return 0;
    }

    private static List<Point> points(Line line) {
        List<Point> points = new ArrayList<>(List.of(line.from));
        int x = line.from.x;
        int y = line.from.y;
        for (Way way : line.ways) {
            for (int n = 0; n < way.far; n++) {
                x += DX[way.where];
                y += DY[way.where];
                points.add(new Point(x, y));
            }
        }
        return points;
    }

    private boolean parted(Point a, Point b) {
        for (Set<Set<Point>> parting : partings) {
            if (parting.contains(Set.of(a, b))) {
                return true;
            }
        }
        return false;
    }

    private boolean[][][] shut = new boolean[16][12][4];

    private int part(Line line) {
        List<Point> points = points(line);
        if (partings.size() == 60) {
            return 9;
        }
        for (Point p : points) {
            if (p.x < 0 || p.x > 16 || p.y < 0 || p.y > 12) {
                return 1;
            }
        }
        if (points.size() == 1) {
            return 2;
        }
        Set<Set<Point>> sides = new HashSet<>();
        for (int n = 1; n < points.size(); n++) {
            if (parted(points.get(n - 1), points.get(n)) || !sides.add(Set.of(points.get(n - 1), points.get(n)))) {
                return 3;
            }
        }
        Set<Point> onPartings = new HashSet<>();
        for (Set<Set<Point>> parting : partings) {
            for (Set<Point> side : parting) {
                onPartings.addAll(side);
            }
        }
        for (int n = 1; n < points.size() - 1; n++) {
            if (onPartings.contains(points.get(n)) || Collections.frequency(points, points.get(n)) > 1) {
                return 4;
            }
        }
        partings.add(sides);
        return 0;
    }

    /** The two corners of the side of a cell. */
    private static List<Point> corners(int x, int y, int where) {
        switch (where) {
            case 0: return List.of(new Point(x, y), new Point(x + 1, y));
            case 1: return List.of(new Point(x, y + 1), new Point(x + 1, y + 1));
            case 2: return List.of(new Point(x, y), new Point(x, y + 1));
            default: return List.of(new Point(x + 1, y), new Point(x + 1, y + 1));
        }
    }

    private boolean closed(int x, int y, int where) {
        List<Point> ends = corners(x, y, where);
        return parted(ends.get(0), ends.get(1));
    }

    private int row(Line line) {
        List<Point> points = points(line);
        if (rows.size() == 24) {
            return 9;
        }
        for (int n = 0; n < points.size(); n++) {
            Point p = points.get(n);
            if (!scalp(p.x, p.y)) {
                return 5;
            }
            for (int where = 0; n > 0 && where < 4; where++) {
                Point q = points.get(n - 1);
                if (q.x == p.x + DX[where] && q.y == p.y + DY[where] && closed(p.x, p.y, where)) {
                    return 6;
                }
            }
            if (rowAt(p) >= 0 || points.subList(0, n).contains(p)) {
                return 7;
            }
        }
        if (points.size() == 1) {
            return 8;
        }
        rows.add(new RowMade(points));
        return 0;
    }

    private int rowAt(Point p) {
        for (int n = 0; n < rows.size(); n++) {
            if (rows.get(n).cells.contains(p)) {
                return n;
            }
        }
        return -1;
    }

    int takeBack() {
        if (kept.isEmpty()) {
            return -1;
        }
        Kept last = kept.get(kept.size() - 1);
        for (int n = last.rows; n < rows.size(); n++) {
            int row = n;
            if (rows.get(n).joined != null || added.stream().anyMatch(a -> a.row == row)) {
                return -1;
            }
        }
        int gone = partings.size() - last.partings + rows.size() - last.rows;
        partings = new ArrayList<>(partings.subList(0, last.partings));
        rows = new ArrayList<>(rows.subList(0, last.rows));
        kept.remove(kept.size() - 1);
        regionMap = null;
        return gone;
    }

    // ---- regions and takings

    /** How far each cell is from this one, over open sides. */
    private Map<Point, Integer> far(Point from) {
        Map<Point, Integer> far = new HashMap<>();
        List<Point> queue = new ArrayList<>(List.of(from));
        far.put(from, 0);
        for (int n = 0; n < queue.size(); n++) {
            Point p = queue.get(n);
            for (int where = 0; where < 4; where++) {
                Point q = new Point(p.x + DX[where], p.y + DY[where]);
                if (scalp(q.x, q.y) && !shut[p.x][p.y][where] && !far.containsKey(q)) {
                    far.put(q, far.get(p) + 1);
                    queue.add(q);
                }
            }
        }
        return far;
    }

    private Map<Point, Integer> regionMap = null;
    private Map<Point, Integer> takenMap = null;

    // Worked out anew only where a cell was told, or something drawn or taken back.
    private void settle() {
        if (regionMap != null) {
            return;
        }
        for (int n = 0; n < 16 * 12 * 4; n++) {
            shut[n % 16][n / 16 % 12][n / 192] = closed(n % 16, n / 16 % 12, n / 192);
        }
        regionMap = new HashMap<>();
        takenMap = new HashMap<>();
        for (int y = 0; y < 12; y++) {
            for (int x = 0; x < 16; x++) {
                if (scalp(x, y)) {
                    Map<Point, Integer> far = far(new Point(x, y));
                    int name = 1000;
                    for (Point p : far.keySet()) {
                        name = Math.min(name, 16 * p.y + p.x);
                    }
                    regionMap.put(new Point(x, y), name);
                    takenMap.put(new Point(x, y), nearest(far));
                }
            }
        }
    }

    private int nearest(Map<Point, Integer> far) {
        int taker = -2;
        int least = 1000;
        for (int n = 0; n < rows.size(); n++) {
            for (int step = 0; step < rows.get(n).cells.size(); step++) {
                int d = far.getOrDefault(rows.get(n).cells.get(step), 1000);
                if (d < least) {
                    least = d;
                    taker = 200 * n + step;
                }
            }
        }
        return taker;
    }

    int region(int x, int y) {
        settle();
        return regionMap.getOrDefault(new Point(x, y), -1);
    }

    int taken(int x, int y) {
        settle();
        return takenMap.getOrDefault(new Point(x, y), -1);
    }

    int side(int x, int y, int where) {
        if (!isCell(x, y) || where < 0 || where > 3) {
            return -1;
        }
        return closed(x, y, where) ? 1 : 0;
    }

    // ---- rows

    private boolean has(int row) {
        return row >= 0 && row < rows.size();
    }

    private boolean has(int row, int step) {
        return has(row) && step >= 0 && step < rows.get(row).cells.size();
    }

    private int steps(RowMade row) {
        return row.cells.size();
    }

    int row(int row, int step) {
        if (!has(row, step)) {
            return -1;
        }
        Point p = rows.get(row).cells.get(step);
        return 16 * p.y + p.x;
    }

    private int amount(int row, int step) {
        int sum = 0;
        for (Map.Entry<Point, Integer> e : takenMap.entrySet()) {
            if (e.getValue() == 200 * row + step) {
                sum += hairs[e.getKey().x][e.getKey().y];
            }
        }
        return sum;
    }

    /** The hairs in the left, middle, right strand behind a step, each with how far it would reach at the end. */
    private List<List<Hair>> strands(int row, int upTo) {
        List<List<Hair>> strands = new ArrayList<>();
        for (int n = 0; n < 3; n++) {
            strands.add(new ArrayList<>());
        }
        int last = rows.get(row).cells.size() - 1;
        for (int step = 0; step <= upTo; step++) {
            int t = amount(row, step);
            int less = 10 * (last - step);
            int taker = step % 2 == 1 || step == 0 ? 0 : 2;
            for (int n = 0; n < t; n++) {
                strands.get(step == 0 ? n % 3 : taker).add(new Hair(step, Math.max(0, mm - less)));
            }
            for (Added a : added) {
                for (int n = 0; a.row == row && a.step == step && n < a.hairs; n++) {
                    strands.get(taker).add(new Hair(step, Math.max(0, a.mm - less)));
                }
            }
            if (step > 0) {
                Collections.swap(strands, taker, 1);
            }
        }
        return strands;
    }

    private boolean edge(int row, int step) {
        Point p = rows.get(row).cells.get(step);
        return !scalp(p.x - 1, p.y) || !scalp(p.x + 1, p.y) || !scalp(p.x, p.y - 1) || !scalp(p.x, p.y + 1);
    }

    private int pullAt(int row, int step) {
        TreeSet<Integer> weights = weights(row, step);
        return (weights.last() - weights.first()) * (edge(row, step) ? 2 : 1);
    }

    private TreeSet<Integer> weights(int row, int step) {
        TreeSet<Integer> weights = new TreeSet<>();
        for (List<Hair> strand : strands(row, step)) {
            weights.add(strand.size());
        }
        return weights;
    }

    int strand(int row, int step, int what) {
        if (!has(row, step) || what < 0 || what > 5) {
            throw new NoSuchElementException();
        }
        settle();
        switch (what) {
            case 3: return amount(row, step);
            case 4: return pullAt(row, step);
            case 5: return edge(row, step) ? 1 : 0;
            default: return strands(row, step).get(what).size();
        }
    }

    int added(int row, int step, int n, int long_) {
        if (!has(row, step) || n < 1 || n > 99 || long_ < 20 || long_ > 2000 || added.size() == 60) {
            return -1;
        }
        added.add(new Added(row, step, n, long_));
        return added.size();
    }

    int pull(int row) {
        if (!has(row)) {
            return -1;
        }
        settle();
        int most = 0;
        for (int step = 0; step < steps(rows.get(row)); step++) {
            most = Math.max(most, pullAt(row, step));
        }
        return most;
    }

    int even(int row) {
        if (!has(row)) {
            return -1;
        }
        settle();
        TreeSet<Integer> amounts = new TreeSet<>();
        for (int step = 0; step < steps(rows.get(row)); step++) {
            amounts.add(amount(row, step));
        }
        return amounts.last() - amounts.first();
    }

    int hangs(int row) {
        if (!has(row)) {
            return -1;
        }
        settle();
        List<List<Hair>> all = new ArrayList<>();
        int need = 3;
        if (rows.get(row).joined == null) {
            all = strands(row, steps(rows.get(row)) - 1);
        } else {
            need = 9;
            for (int other : rows.get(row).joined) {
                List<Hair> one = new ArrayList<>();
                strands(other, steps(rows.get(other)) - 1).forEach(one::addAll);
                all.add(one);
            }
        }
        for (int t = 2000; t > 0; t--) {
            boolean each = true;
            for (List<Hair> some : all) {
                int reaching = 0;
                for (Hair hair : some) {
                    reaching += hair.reach >= t ? 1 : 0;
                }
                each &= reaching >= need;
            }
            if (each) {
                return t;
            }
        }
        return 0;
    }

    int join(int a, int b, int c) {
        Set<Integer> three = new TreeSet<>(Arrays.asList(a, b, c));
        if (three.size() < 3 || !has(a) || !has(b) || !has(c)) {
            return -1;
        }
        for (int one : three) {
            if (rows.get(one).joined != null) {
                return -1;
            }
            for (int other : three) {
                List<Point> p = rows.get(one).cells;
                List<Point> q = rows.get(other).cells;
                Point end = p.get(p.size() - 1);
                Point its = q.get(q.size() - 1);
                if (Math.abs(end.x - its.x) > 2 || Math.abs(end.y - its.y) > 2) {
                    return -1;
                }
            }
        }
        for (int one : three) {
            rows.get(one).joined = three;
        }
        return ++joins;
    }

    private boolean unlike(int x, int y) {
        int z = 15 - x;
        return scalp(x, y) != scalp(z, y)
            || rowAt(new Point(x, y)) >= 0 != rowAt(new Point(z, y)) >= 0
            || takenMap.getOrDefault(new Point(x, y), -1) == -2 != (takenMap.getOrDefault(new Point(z, y), -1) == -2);
    }

    int look(int x, int y, int what) {
        if (!isCell(x, y) || what < 0 || what > 2) {
            throw new NoSuchElementException();
        }
        settle();
        return what == 0 ? hairs[x][y] : what == 1 ? (unlike(x, y) ? 1 : 0) : rowAt(new Point(x, y));
    }

    // ---- work

    private int minutes(int row) {
        int weight = 0;
        for (List<Hair> strand : strands(row, steps(rows.get(row)) - 1)) {
            weight += strand.size();
        }
        int times = 0;
        for (Added a : added) {
            times += a.row == row ? 1 : 0;
        }
        return 2 * steps(rows.get(row)) + weight / 10 + 5 * times;
    }

    int work(int row) {
        if (!has(row)) {
            return -1;
        }
        settle();
        return minutes(row);
    }

    boolean hands(int a, int b, int c) {
        if (a < 1 || a > 3 || b < 0 || b > 3 || c < 0 || c > 3) {
            return false;
        }
        speeds = b == 0 ? List.of(a) : c == 0 ? List.of(a, b) : List.of(a, b, c);
        return true;
    }

    private List<Integer> planRows;
    private int[] planHands;
    private int planTime;

    private void makePlan() {
        settle();
        planRows = new ArrayList<>();
        for (int n = 0; n < rows.size() && planRows.size() < 8; n++) {
            if (rows.get(n).week < 0 || out(n)) {
                planRows.add(n);
            }
        }
        int[] work = new int[planRows.size()];
        for (int n = 0; n < work.length; n++) {
            work[n] = minutes(planRows.get(n));
        }
        planTime = Integer.MAX_VALUE;
        int number = 1;
        for (int n = 0; n < planRows.size(); n++) {
            number *= speeds.size();
        }
        for (int code = 0; code < number; code++) {
            int[] hand = new int[planRows.size()];
            int rest = code;
            for (int n = planRows.size() - 1; n >= 0; n--) {
                hand[n] = rest % speeds.size();
                rest /= speeds.size();
            }
            int[] load = new int[3];
            for (int n = 0; n < hand.length; n++) {
                int speed = speeds.get(hand[n]);
                load[hand[n]] += work[n] / speed + (work[n] % speed > 0 ? 1 : 0);
            }
            int time = Math.max(load[0], Math.max(load[1], load[2]));
            if (time < planTime) {
                planTime = time;
                planHands = hand;
            }
        }
    }

    int plan(int what) {
        if (what < 0 || what > 2) {
            return -1;
        }
        makePlan();
        if (what == 2) {
            return planRows.size();
        }
        int sitting = planTime;
        for (int full = 60; full < planTime; full += 60) {
            sitting += 10;
        }
        return what == 0 ? planTime : sitting;
    }

    int planned(int row) {
        makePlan();
        int n = planRows.indexOf(row);
        return n < 0 ? -1 : planHands[n];
    }

    int done() {
        for (RowMade row : rows) {
            row.week = week;
        }
        return rows.size();
    }

    int weeks(int n) {
        if (n < 0 || n > 20 || week + n > 99) {
            return -1;
        }
        for (int k = 0; k < n; k++) {
            week++;
            mm = Math.min(2000, mm + 3);
        }
        return week;
    }

    private int held(int row) {
        int least = Integer.MAX_VALUE;
        for (int step = 0; step < steps(rows.get(row)); step++) {
            least = Math.min(least, weights(row, step).first());
        }
        return Math.min(8, least / 4 + 1);
    }

    private boolean out(int row) {
        return rows.get(row).week >= 0 && week - rows.get(row).week >= held(row);
    }

    int holds(int row) {
        if (!has(row)) {
            return -1;
        }
        settle();
        return held(row);
    }

    int isOut(int row) {
        if (!has(row)) {
            return -1;
        }
        settle();
        return out(row) ? 1 : 0;
    }

    boolean redo(int row) {
        if (isOut(row) != 1 || rows.get(row).joined != null) {
            return false;
        }
        rows.get(row).week = week;
        return true;
    }

    int count(int what) {
        settle();
        int sum = 0;
        switch (what) {
            case 0: return partings.size();
            case 1: return rows.size();
            case 2: return new HashSet<>(regionMap.values()).size();
            case 3: return Collections.frequency(new ArrayList<>(takenMap.values()), -2);
            case 4:
                for (int y = 0; y < 12; y++) {
                    for (int x = 0; x < 8; x++) {
                        sum += unlike(x, y) ? 1 : 0;
                    }
                }
                return sum;
            case 5:
                for (Point p : regionMap.keySet()) {
                    sum += hairs[p.x][p.y];
                }
                return sum;
            case 6:
                for (int n = 0; n < rows.size(); n++) {
                    for (List<Hair> strand : strands(n, steps(rows.get(n)) - 1)) {
                        sum += strand.size();
                    }
                }
                return sum;
            case 7: return joins;
            case 8: return kept.size();
            case 9: return week;
            case 10: return mm;
            case 11: return tape.length();
            case 12: return added.size();
            default: return -1;
        }
    }
}
