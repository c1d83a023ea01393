import java.util.ArrayDeque;
import java.util.ArrayList;
import java.util.HashMap;
import java.util.HashSet;
import java.util.List;
import java.util.Map;
import java.util.NoSuchElementException;
import java.util.Set;
import java.util.TreeSet;

/**
 * The document once more, as slowly and plainly as can be, to be held against LeadPark.
 * Every LEAST is found by trying all the leads there can be, shortest first, and walking about by each.
 */
final class Model {
    private static final int NONE = -1;

    private static final class State {
        List<List<int[]>> ways = new ArrayList<>();
        List<int[]> walls = new ArrayList<>();
        List<List<String>> law = null;
        List<int[]> marks = new ArrayList<>();
        int texts = 0;
        int seed = 1;
        int way;
        int other;
        int lead;
        /** The PLACES of the walk on the way, the begin first; null without one. */
        List<int[]> places = null;
        int remembered = 0;

        State copy() {
            State copy = new State();
            for (List<int[]> w : ways) {
                copy.ways.add(new ArrayList<>(w));
            }
            copy.walls.addAll(walls);
            copy.law = law;
            copy.marks.addAll(marks);
            copy.texts = texts;
            copy.seed = seed;
            copy.way = way;
            copy.other = other;
            copy.lead = lead;
            copy.places = places == null ? null : new ArrayList<>(places);
            copy.remembered = 0;
            return copy;
        }
    }

    private State s = new State();
    private State kept = null;
    private StringBuilder tape = new StringBuilder();
    private int fault = NONE;

    int feed(int... numbers) {
        if (tape.length() + 20 > 400) {
            return NONE;
        }
        for (int n : numbers) {
            tape.append((char) (n >>> 24)).append((char) (n >>> 16 & 255))
                    .append((char) (n >>> 8 & 255)).append((char) (n & 255));
        }
        return tape.length();
    }

    boolean end(int n) {
        if (n < 0 || n > tape.length()) {
            return false;
        }
        tape.setLength(n);
        return true;
    }

    private String taken() {
        String text = tape.toString();
        tape = new StringBuilder();
        return text;
    }

    // ---- texts: a list of things, and for each the question whether it can stand there

    private static final class Thing {
        final String what;
        final int at;

        Thing(String what, int at) {
            this.what = what;
            this.at = at;
        }

        boolean isNumber() {
            return !what.isEmpty() && Character.isDigit(what.charAt(0)) && what.charAt(0) < 128;
        }
    }

    private static List<Thing> things(String text) {
        List<Thing> all = new ArrayList<>();
        java.util.regex.Matcher m = java.util.regex.Pattern.compile("[a-z]+|[0-9]+|[^ ]", java.util.regex.Pattern.DOTALL)
                .matcher(text);
        while (m.find()) {
            all.add(new Thing(m.group(), m.start()));
        }
        all.add(new Thing("", text.length()));
        return all;
    }

    int park() {
        String text = taken();
        State draft = s.copy();
        fault = tellPark(things(text), draft);
        if (fault != NONE) {
            throw new IllegalArgumentException();
        }
        if (s.texts == 16) {
            throw new UnsupportedOperationException();
        }
        draft.texts++;
        draft.places = null;
        s = draft;
        return s.texts;
    }

    private static boolean coordinate(Thing t) {
        return t.isNumber() && t.what.length() <= 3;
    }

    /** The first wrong byte, or NONE. */
    private static int tellPark(List<Thing> things, State draft) {
        if (things.size() == 1) {
            return NONE;
        }
        int i = 0;
        int lines = 0;
        while (true) {
            Thing word = things.get(i);
            lines++;
            if (lines > 14) {
                return word.at;
            }
            i++;
            switch (word.what) {
                case "wall": {
                    if (draft.walls.size() == 8) {
                        return word.at;
                    }
                    int[] wall = new int[4];
                    for (int k = 0; k < 4; k++, i++) {
                        if (!coordinate(things.get(i))) {
                            return things.get(i).at;
                        }
                        wall[k] = Integer.parseInt(things.get(i).what);
                    }
                    draft.walls.add(wall);
                    break;
                }
                case "way":
                case "more": {
                    int way = draft.ways.size();
                    if (word.what.equals("way")) {
                        if (way == 12) {
                            return word.at;
                        }
                        draft.ways.add(new ArrayList<>());
                    } else {
                        Thing number = things.get(i);
                        if (!coordinate(number) || Integer.parseInt(number.what) >= draft.ways.size()) {
                            return number.at;
                        }
                        way = Integer.parseInt(number.what);
                        i++;
                    }
                    boolean some = false;
                    while (!some || things.get(i).isNumber()) {
                        if (!coordinate(things.get(i)) || draft.ways.get(way).size() == 30) {
                            return things.get(i).at;
                        }
                        if (!coordinate(things.get(i + 1))) {
                            return things.get(i + 1).at;
                        }
                        draft.ways.get(way).add(new int[] {
                            Integer.parseInt(things.get(i).what), Integer.parseInt(things.get(i + 1).what)});
                        i += 2;
                        some = true;
                    }
                    break;
                }
                default:
                    return word.at;
            }
            if (things.get(i).what.isEmpty()) {
                return NONE;
            }
            if (!things.get(i).what.equals(";")) {
                return things.get(i).at;
            }
            i++;
        }
    }

    private static final Set<String> PARTS = Set.of("man", "dog", "far", "mx", "my", "dx", "dy");

    int law() {
        String text = taken();
        List<Thing> things = things(text);
        fault = lawFault(things);
        if (fault != NONE) {
            throw new IllegalArgumentException();
        }
        s.law = new ArrayList<>();
        s.places = null;
        List<String> line = new ArrayList<>();
        for (Thing t : things) {
            if (t.what.equals(";") || t.what.isEmpty() && things.size() > 1) {
                s.law.add(line);
                line = new ArrayList<>();
            } else {
                line.add(t.what);
            }
        }
        return s.law.size();
    }

    /** A machine that knows at each thing what may come: which state, and what is open. */
    private static int lawFault(List<Thing> things) {
        if (things.size() == 1) {
            return NONE;
        }
        String state = "line";
        int lines = 0;
        StringBuilder open = new StringBuilder();
        for (Thing t : things) {
            String w = t.what;
            boolean part = t.isNumber() && w.length() <= 7 || PARTS.contains(w);
            switch (state) {
                case "line":
                    lines++;
                    if (!w.equals("bar") || lines > 12) {
                        return t.at;
                    }
                    state = "bar";
                    break;
                case "bar":
                    if (w.isEmpty()) {
                        return NONE;
                    }
                    if (w.equals("if")) {
                        state = "atom";
                    } else if (w.equals(";")) {
                        state = "line";
                    } else {
                        return t.at;
                    }
                    break;
                case "atom":
                    if (w.equals("(") || w.equals("not")) {
                        if (open.length() == 6) {
                            return t.at;
                        }
                        open.append(w.charAt(0));
                    } else if (part) {
                        state = "left";
                    } else {
                        return t.at;
                    }
                    break;
                case "left":
                    if (w.equals("+")) {
                        state = "leftpart";
                    } else if (w.equals("<") || w.equals(">")) {
                        state = "rightpart";
                    } else {
                        return t.at;
                    }
                    break;
                case "leftpart":
                case "rightpart":
                    if (!part) {
                        return t.at;
                    }
                    state = state.equals("leftpart") ? "left" : "right";
                    break;
                default: // "right" of a comparison, or behind a )
                    if (state.equals("right") && w.equals("+")) {
                        state = "rightpart";
                        break;
                    }
                    while (open.length() > 0 && open.charAt(open.length() - 1) == 'n') {
                        open.setLength(open.length() - 1);
                    }
                    if (w.equals("and") || w.equals("or")) {
                        state = "atom";
                    } else if (w.equals(")") && open.length() > 0) {
                        open.setLength(open.length() - 1);
                        state = "closed";
                    } else if (w.equals(";") && open.length() == 0) {
                        state = "line";
                    } else if (w.isEmpty() && open.length() == 0) {
                        return NONE;
                    } else {
                        return t.at;
                    }
                    break;
            }
        }
        throw new IllegalStateException("the last thing is the end");
    }

    /** What a C of things tells: parted at its weakest joints. */
    private static boolean holds(List<String> c, Map<String, Integer> values) {
        for (String joint : new String[] {"or", "and"}) {
            int depth = 0;
            for (int i = c.size() - 1; i > 0; i--) {
                depth += c.get(i).equals(")") ? 1 : c.get(i).equals("(") ? -1 : 0;
                if (depth == 0 && c.get(i).equals(joint)) {
                    boolean left = holds(c.subList(0, i), values);
                    boolean right = holds(c.subList(i + 1, c.size()), values);
                    return joint.equals("or") ? left || right : left && right;
                }
            }
        }
        if (c.get(0).equals("not")) {
            return !holds(c.subList(1, c.size()), values);
        }
        if (c.get(0).equals("(")) {
            return holds(c.subList(1, c.size() - 1), values);
        }
        int turn = c.contains("<") ? c.indexOf("<") : c.indexOf(">");
        long left = sum(c.subList(0, turn), values);
        long right = sum(c.subList(turn + 1, c.size()), values);
        return c.get(turn).equals("<") ? left < right : left > right;
    }

    private static long sum(List<String> parts, Map<String, Integer> values) {
        long sum = 0;
        for (String part : parts) {
            if (!part.equals("+")) {
                sum += values.containsKey(part) ? values.get(part) : Integer.parseInt(part);
            }
        }
        return sum;
    }

    int fault() {
        return fault;
    }

    // ---- places

    private void need(int... ways) {
        for (int way : ways) {
            if (way < 0 || way >= s.ways.size()) {
                throw new IndexOutOfBoundsException();
            }
        }
    }

    private int[] at(int way, int corner) {
        need(way);
        if (corner < 0 || corner >= s.ways.get(way).size()) {
            throw new IndexOutOfBoundsException();
        }
        return s.ways.get(way).get(corner);
    }

    int corner(int way, int corner, boolean up) {
        return at(way, corner)[up ? 1 : 0];
    }

    int corners(int way) {
        need(way);
        return s.ways.get(way).size();
    }

    private static int far(int[] p, int[] q) {
        return (p[0] - q[0]) * (p[0] - q[0]) + (p[1] - q[1]) * (p[1] - q[1]);
    }

    int far(int way, int m, int other, int d) {
        return far(at(way, m), at(other, d));
    }

    private static int turn(int[] a, int[] b, int[] c) {
        return Integer.signum((b[0] - a[0]) * (c[1] - a[1]) - (b[1] - a[1]) * (c[0] - a[0]));
    }

    private static boolean lies(int[] p, int[] a, int[] b) {
        return turn(a, b, p) == 0 && Math.min(a[0], b[0]) <= p[0] && p[0] <= Math.max(a[0], b[0])
                && Math.min(a[1], b[1]) <= p[1] && p[1] <= Math.max(a[1], b[1]);
    }

    private static boolean meet(int[] a, int[] b, int[] c, int[] d) {
        if (lies(a, c, d) || lies(b, c, d) || lies(c, a, b) || lies(d, a, b)) {
            return true;
        }
        return turn(a, b, c) * turn(a, b, d) < 0 && turn(c, d, a) * turn(c, d, b) < 0;
    }

    boolean shut(int way, int m, int other, int d) {
        int[] p = at(way, m);
        int[] q = at(other, d);
        for (int[] wall : s.walls) {
            if (meet(p, q, new int[] {wall[0], wall[1]}, new int[] {wall[2], wall[3]})) {
                return true;
            }
        }
        if (s.law == null) {
            return false;
        }
        Map<String, Integer> values = new HashMap<>();
        values.put("man", m);
        values.put("dog", d);
        values.put("far", far(p, q));
        values.put("mx", p[0]);
        values.put("my", p[1]);
        values.put("dx", q[0]);
        values.put("dy", q[1]);
        for (List<String> line : s.law) {
            if (line.size() == 1 || holds(line.subList(2, line.size()), values)) {
                return true;
            }
        }
        return false;
    }

    // ---- walks: any number of walkers on rows of points

    /** How far all are from one another where they stand now; NONE, if they may not stand so. */
    private interface Cost {
        int of(int[] place);
    }

    /** LEAST by which walkers come from the first of their so many stations to the last ones. */
    private static int least(int[] stations, boolean withBack, Cost cost) {
        int walkers = stations.length;
        TreeSet<Integer> leads = new TreeSet<>();
        Map<Integer, Integer> costs = new HashMap<>();
        int all = 1;
        for (int n : stations) {
            all *= n;
        }
        for (int code = 0; code < all; code++) {
            int c = cost.of(placeOf(code, stations));
            costs.put(code, c);
            if (c != NONE) {
                leads.add(c);
            }
        }
        List<Integer> sorted = new ArrayList<>(leads);
        int low = 0;
        int high = sorted.size();
        while (low < high) {
            int mid = (low + high) / 2;
            if (comes(stations, withBack, costs, sorted.get(mid), all - 1, walkers)) {
                high = mid;
            } else {
                low = mid + 1;
            }
        }
        return low == sorted.size() ? NONE : sorted.get(low);
    }

    private static int[] placeOf(int code, int[] stations) {
        int[] place = new int[stations.length];
        for (int k = 0; k < stations.length; k++) {
            place[k] = code % stations[k];
            code /= stations[k];
        }
        return place;
    }

    private static boolean comes(int[] stations, boolean withBack, Map<Integer, Integer> costs, int lead, int end,
            int walkers) {
        Set<Integer> seen = new HashSet<>();
        ArrayDeque<Integer> todo = new ArrayDeque<>();
        todo.add(0);
        while (!todo.isEmpty()) {
            int code = todo.remove();
            int c = costs.get(code);
            if (c == NONE || c > lead || !seen.add(code)) {
                continue;
            }
            if (code == end) {
                return true;
            }
            int[] place = placeOf(code, stations);
            int moves = (int) Math.pow(3, walkers);
            for (int move = 0; move < moves; move++) {
                int rest = move;
                int next = 0;
                int weight = 1;
                boolean possible = true;
                for (int k = 0; k < walkers; k++) {
                    int by = rest % 3 - 1;
                    rest /= 3;
                    int to = place[k] + by;
                    possible &= to >= 0 && to < stations[k] && (by >= 0 || withBack);
                    next += to * weight;
                    weight *= stations[k];
                }
                if (possible) {
                    todo.add(next);
                }
            }
        }
        return false;
    }

    private int openFar(int way, int m, int other, int d) {
        return shut(way, m, other, d) ? NONE : far(way, m, other, d);
    }

    int least(int way, int other) {
        need(way, other);
        return least(new int[] {corners(way), corners(other)}, false, p -> openFar(way, p[0], other, p[1]));
    }

    private boolean allowed(int way, int m, int other, int d, int lead) {
        return m < corners(way) && d < corners(other) && !shut(way, m, other, d) && far(way, m, other, d) <= lead;
    }

    /** The first walk by a lead: every step is tried in its turn, dead ends are remembered. */
    private String walk(int way, int other, int m, int d, int lead, Set<Integer> dead) {
        if (dead.contains(100 * m + d) || !allowed(way, m, other, d, lead)) {
            return null;
        }
        if (m == corners(way) - 1 && d == corners(other) - 1) {
            return "";
        }
        for (int step = 1; step <= 3; step++) {
            String rest = walk(way, other, m + (step == 2 ? 0 : 1), d + (step == 1 ? 0 : 1), lead, dead);
            if (rest != null) {
                return step + rest;
            }
        }
        dead.add(100 * m + d);
        return null;
    }

    int first(int way, int other, int k) {
        int least = least(way, other);
        if (k < NONE) {
            throw new IllegalArgumentException();
        }
        if (least == NONE) {
            return NONE;
        }
        String steps = walk(way, other, 0, 0, least, new HashSet<>());
        return k == NONE ? steps.length() : k < steps.length() ? steps.charAt(k) - '0' : NONE;
    }

    int bars(int way, int other) {
        int least = least(way, other);
        if (least == NONE) {
            return NONE;
        }
        String steps = walk(way, other, 0, 0, least, new HashSet<>());
        int m = 0;
        int d = 0;
        for (char step : steps.toCharArray()) {
            if (far(way, m, other, d) == least) {
                break;
            }
            m += step == '2' ? 0 : 1;
            d += step == '1' ? 0 : 1;
        }
        return 100 * m + d;
    }

    int judge(int way, int other, int lead) {
        String steps = taken();
        need(way, other);
        if (!steps.matches("[123]*") || lead < 0) {
            throw new IllegalArgumentException();
        }
        if (!allowed(way, 0, other, 0, lead)) {
            return -2;
        }
        int m = 0;
        int d = 0;
        for (int k = 0; k < steps.length(); k++) {
            m += steps.charAt(k) == '2' ? 0 : 1;
            d += steps.charAt(k) == '1' ? 0 : 1;
            if (!allowed(way, m, other, d, lead)) {
                return k;
            }
        }
        return NONE;
    }

    private List<int[]> parted(int way, int n) {
        List<int[]> points = new ArrayList<>();
        for (int k = 0; k <= (corners(way) - 1) * n; k++) {
            int[] from = at(way, k / n);
            int[] to = k % n == 0 ? from : at(way, k / n + 1);
            points.add(new int[] {
                from[0] * n + (to[0] - from[0]) * (k % n), from[1] * n + (to[1] - from[1]) * (k % n)});
        }
        return points;
    }

    long parts(int way, int other, int n) {
        need(way, other);
        if (n < 1 || n > 8) {
            throw new IllegalArgumentException();
        }
        List<int[]> one = parted(way, n);
        List<int[]> two = parted(other, n);
        return least(new int[] {one.size(), two.size()}, false, p -> far(one.get(p[0]), two.get(p[1])));
    }

    int back(int way, int other) {
        need(way, other);
        return least(new int[] {corners(way), corners(other)}, true, p -> openFar(way, p[0], other, p[1]));
    }

    int ring(int way, int other, boolean begin) {
        need(way, other);
        int n = corners(way);
        int k = corners(other);
        int best = NONE;
        int by = NONE;
        for (int b = 0; b < k; b++) {
            int from = b;
            int lead = least(new int[] {n == 1 ? 1 : n + 1, k == 1 ? 1 : k + 1}, false,
                    p -> openFar(way, p[0] % n, other, (from + p[1]) % k));
            if (lead != NONE && (best == NONE || lead < best)) {
                best = lead;
                by = b;
            }
        }
        return begin ? by : best;
    }

    int dogs(int way, int one, int other) {
        need(way, one, other);
        return least(new int[] {corners(way), corners(one), corners(other)}, false, p -> {
            int first = openFar(way, p[0], one, p[1]);
            int second = openFar(way, p[0], other, p[2]);
            return first == NONE || second == NONE ? NONE : Math.max(first, second);
        });
    }

    int three(int way, int one, int other) {
        need(way, one, other);
        return least(new int[] {corners(way), corners(one), corners(other)}, false,
                p -> Math.max(far(one, p[1], other, p[2]),
                        Math.max(far(way, p[0], one, p[1]), far(way, p[0], other, p[2]))));
    }

    long drag(int way, int other) {
        need(way, other);
        long[][] sums = new long[corners(way)][corners(other)];
        for (int m = 0; m < corners(way); m++) {
            for (int d = 0; d < corners(other); d++) {
                long before = m == 0 && d == 0 ? 0 : Long.MAX_VALUE;
                for (int[] from : new int[][] {{m - 1, d}, {m, d - 1}, {m - 1, d - 1}}) {
                    if (from[0] >= 0 && from[1] >= 0 && sums[from[0]][from[1]] != NONE) {
                        before = Math.min(before, sums[from[0]][from[1]]);
                    }
                }
                boolean no = before == Long.MAX_VALUE || shut(way, m, other, d);
                sums[m][d] = no ? NONE : before + far(way, m, other, d);
            }
        }
        return sums[corners(way) - 1][corners(other) - 1];
    }

    // ---- sets

    private List<Integer> members(int set) {
        List<Integer> members = new ArrayList<>();
        for (int way = 0; way < s.ways.size(); way++) {
            if ((set & 1 << way) != 0) {
                members.add(way);
            }
        }
        return members;
    }

    int nearest(int way, int set) {
        need(way);
        int best = NONE;
        for (int other : members(set)) {
            if (other != way && least(way, other) != NONE
                    && (best == NONE || least(way, other) < least(way, best))) {
                best = other;
            }
        }
        return best;
    }

    int middle(int set) {
        int best = NONE;
        int bestGreatest = 0;
        for (int way : members(set)) {
            int greatest = 0;
            boolean counts = true;
            for (int other : members(set)) {
                if (other != way) {
                    counts &= least(way, other) != NONE;
                    greatest = Math.max(greatest, least(way, other));
                }
            }
            if (counts && (best == NONE || greatest < bestGreatest)) {
                best = way;
                bestGreatest = greatest;
            }
        }
        return best;
    }

    /** All choices of CORNERS, the fewest first, and of as many the first. */
    int fewer(int way, int lead) {
        need(way);
        if (lead < 0) {
            throw new IllegalArgumentException();
        }
        int n = corners(way);
        for (int size = 1; size <= n; size++) {
            List<Integer> chosen = new ArrayList<>();
            chosen.add(0);
            if (choose(way, lead, size, chosen)) {
                int bits = 0;
                for (int corner : chosen) {
                    bits |= 1 << corner;
                }
                return bits;
            }
        }
        throw new IllegalStateException("all corners are a choice");
    }

    private boolean choose(int way, int lead, int size, List<Integer> chosen) {
        int n = corners(way);
        int last = chosen.get(chosen.size() - 1);
        if (chosen.size() == size) {
            return last == n - 1 && comesBy(way, chosen, lead);
        }
        for (int next = last + 1; next < n; next++) {
            chosen.add(next);
            if (choose(way, lead, size, chosen)) {
                return true;
            }
            chosen.remove(chosen.size() - 1);
        }
        return false;
    }

    private boolean comesBy(int way, List<Integer> chosen, int lead) {
        boolean[][] can = new boolean[chosen.size()][corners(way)];
        for (int i = 0; i < chosen.size(); i++) {
            for (int j = 0; j < corners(way); j++) {
                boolean from = i == 0 && j == 0 || i > 0 && can[i - 1][j] || j > 0 && can[i][j - 1]
                        || i > 0 && j > 0 && can[i - 1][j - 1];
                can[i][j] = from && far(way, chosen.get(i), way, j) <= lead;
            }
        }
        return can[chosen.size() - 1][corners(way) - 1];
    }

    int own(int set) {
        int greatest = 0;
        List<Integer> members = members(set);
        for (int man : members) {
            for (int dog : members) {
                if (man < dog) {
                    if (least(man, dog) == NONE) {
                        return NONE;
                    }
                    greatest = Math.max(greatest, least(man, dog));
                }
            }
        }
        return greatest;
    }

    boolean forged(int way, int set) {
        int nearest = nearest(way, set);
        return own(set) == NONE || nearest == NONE || least(way, nearest) > own(set);
    }

    // ---- tracks

    int mark(boolean dog, int minute, int x, int y) {
        for (int n : new int[] {minute, x, y}) {
            if (n < 0 || n > 999) {
                throw new IllegalArgumentException();
            }
        }
        if (s.marks.size() == 20) {
            throw new UnsupportedOperationException();
        }
        s.marks.add(new int[] {x, y, minute, dog ? 1 : 0});
        return s.marks.size() - 1;
    }

    int unmark() {
        if (s.marks.isEmpty()) {
            return NONE;
        }
        s.marks.remove(s.marks.size() - 1);
        return s.marks.size();
    }

    int needed() {
        int most = NONE;
        for (int[] man : s.marks) {
            for (int[] dog : s.marks) {
                if (man[3] == 0 && dog[3] == 1 && man[2] == dog[2]) {
                    most = Math.max(most, far(man, dog));
                }
            }
        }
        return most;
    }

    int fits(int length, int pace, boolean pair) {
        if (length < 0 || length > 999 || pace < 0 || pace > 99) {
            throw new IllegalArgumentException();
        }
        List<Integer> misfits = new ArrayList<>();
        for (int i = 0; i < s.marks.size(); i++) {
            for (int j = i + 1; j < s.marks.size(); j++) {
                int[] a = s.marks.get(i);
                int[] b = s.marks.get(j);
                double reach = (double) pace * Math.abs(a[2] - b[2]) + (a[3] == b[3] ? 0 : length);
                if (far(a, b) > reach * reach) {
                    misfits.add(100 * i + j);
                }
            }
        }
        return !pair ? misfits.size() : misfits.isEmpty() ? NONE : misfits.get(0);
    }

    // ---- the walk on the way

    boolean begin(int way, int other, int lead) {
        need(way, other);
        if (lead < 0) {
            throw new IllegalArgumentException();
        }
        if (!allowed(way, 0, other, 0, lead)) {
            return false;
        }
        s.way = way;
        s.other = other;
        s.lead = lead;
        s.places = new ArrayList<>();
        s.places.add(new int[] {0, 0});
        s.remembered = 0;
        return true;
    }

    private int[] here() {
        return s.places.get(s.places.size() - 1);
    }

    private int[] after(int step) {
        return new int[] {here()[0] + (step == 2 ? 0 : 1), here()[1] + (step == 1 ? 0 : 1)};
    }

    int step(int step) {
        if (step < 1 || step > 3) {
            throw new IllegalArgumentException();
        }
        if (s.places == null || !allowed(s.way, after(step)[0], s.other, after(step)[1], s.lead)) {
            return NONE;
        }
        s.places.add(after(step));
        s.remembered = Math.min(40, s.remembered + 1);
        return far(s.way, here()[0], s.other, here()[1]);
    }

    int undo() {
        if (s.places == null || s.remembered == 0) {
            return NONE;
        }
        int[] last = s.places.remove(s.places.size() - 1);
        s.remembered--;
        return last[0] - here()[0] + 2 * (last[1] - here()[1]);
    }

    int live(int steps) {
        if (steps < 1 || steps > 60) {
            throw new IllegalArgumentException();
        }
        int gone = 0;
        while (s.places != null && gone < steps) {
            List<Integer> open = new ArrayList<>();
            for (int step = 1; step <= 3; step++) {
                if (allowed(s.way, after(step)[0], s.other, after(step)[1], s.lead)) {
                    open.add(step);
                }
            }
            if (open.isEmpty()) {
                break;
            }
            s.seed = (int) (1103515245L * s.seed + 12345);
            step(open.get((s.seed >>> 16) % 32768 % open.size()));
            gone++;
        }
        return gone;
    }

    int on(int what) {
        if (what < 0 || what > 6) {
            throw new NoSuchElementException();
        }
        if (s.places == null) {
            return NONE;
        }
        int greatest = 0;
        for (int[] place : s.places) {
            greatest = Math.max(greatest, far(s.way, place[0], s.other, place[1]));
        }
        boolean over = here()[0] == corners(s.way) - 1 && here()[1] == corners(s.other) - 1;
        return new int[] {
            here()[0], here()[1], s.places.size() - 1, greatest, over ? 1 : 0, s.remembered, s.lead}[what];
    }

    int seed(int n) {
        int before = s.seed;
        s.seed = n;
        return before;
    }

    void image() {
        kept = s.copy();
    }

    boolean again() {
        if (kept == null) {
            return false;
        }
        s = kept.copy();
        return true;
    }

    int count(int what) {
        int corners = 0;
        for (List<int[]> way : s.ways) {
            corners += way.size();
        }
        int[] counts = {s.ways.size(), s.walls.size(), s.texts, s.law == null ? NONE : s.law.size(),
            s.marks.size(), corners};
        return what < 0 || what > 5 ? NONE : counts[what];
    }
}
