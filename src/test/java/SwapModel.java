import java.util.ArrayDeque;
import java.util.ArrayList;
import java.util.Arrays;
import java.util.Comparator;
import java.util.Deque;
import java.util.HashMap;
import java.util.List;
import java.util.Map;
import java.util.TreeMap;
import java.util.regex.Matcher;
import java.util.regex.Pattern;

/**
 * The document once more, by other means and without care for speed or room: what SqueezedSwap should answer.
 * A call is told by its name and arguments (a boolean as 1 or 0); THROWN means NoSuchElementException.
 */
final class SwapModel {
    static final int THROWN = -1000;
    private static final Map<List<Integer>, int[]> COSTS = new HashMap<>();

    private record Token(char sign, int place, int value) { }

    private record Fault(int place, int number) { }

    private record Op(int kind, int page, int data) { }

    private record Piece(int sort, int first, int length, int distance, int cost) { }

    private static final class Zone {
        final int zoneClass;
        final Integer[] slots;

        Zone(int zoneClass) {
            this.zoneClass = zoneClass;
            this.slots = new Integer[slotsOf(zoneClass)];
        }

        Zone copy() {
            Zone z = new Zone(zoneClass);
            System.arraycopy(slots, 0, z.slots, 0, slots.length);
            return z;
        }

        int pages() {
            int n = 0;
            for (Integer s : slots) {
                if (s != null) {
                    n++;
                }
            }
            return n;
        }

        boolean full() {
            return pages() == slots.length;
        }
    }

    private static final class State {
        int limit;
        int step;
        int big;
        List<List<Integer>> data = new ArrayList<>();
        TreeMap<Integer, Integer> where = new TreeMap<>();
        TreeMap<Integer, List<Integer>> stored = new TreeMap<>();
        List<Integer> ages = new ArrayList<>();
        List<Integer> held = new ArrayList<>();
        TreeMap<Integer, Zone> zones = new TreeMap<>();
        int[] totals = new int[4];
        List<Integer> gone = new ArrayList<>();

        State copy() {
            State s = new State();
            s.limit = limit;
            s.step = step;
            s.big = big;
            for (List<Integer> d : data) {
                s.data.add(new ArrayList<>(d));
            }
            s.where.putAll(where);
            s.stored.putAll(stored);
            s.ages.addAll(ages);
            s.held.addAll(held);
            zones.forEach((n, z) -> s.zones.put(n, z.copy()));
            s.totals = totals.clone();
            return s;
        }

        int at(int p) {
            return where.getOrDefault(p, 0);
        }

        int frames() {
            return zones.values().stream().mapToInt(z -> framesOf(z.zoneClass)).sum();
        }

        void leave(int p) {
            ages.remove((Integer) p);
            held.remove((Integer) p);
            for (int n : new ArrayList<>(zones.keySet())) {
                Zone z = zones.get(n);
                for (int i = 0; i < z.slots.length; i++) {
                    if (z.slots[i] != null && z.slots[i] == p) {
                        z.slots[i] = null;
                    }
                }
                if (z.pages() == 0) {
                    zones.remove(n);
                }
            }
        }

        void drop(int p) {
            leave(p);
            where.remove(p);
            stored.remove(p);
        }

        void toDisk(int p, boolean pushed) {
            leave(p);
            where.put(p, 3);
            totals[0]++;
            if (pushed) {
                totals[1]++;
                gone.add(p);
            }
        }

        Integer cold() {
            return ages.stream().filter(p -> !held.contains(p)).findFirst().orElse(null);
        }

        Integer zoneWithRoom(int home) {
            return zones.keySet().stream()
                .filter(n -> zones.get(n).zoneClass == home && !zones.get(n).full())
                .min(Comparator.<Integer>comparingInt(n -> -zones.get(n).pages()).thenComparingInt(n -> n))
                .orElse(null);
        }

        int leastFreeNumber() {
            int n = 0;
            while (zones.containsKey(n)) {
                n++;
            }
            return n;
        }

        void store(int p, int d) {
            drop(p);
            List<Integer> cells = new ArrayList<>(data.get(d));
            stored.put(p, cells);
            int size = cost(cells, 0);
            if (cells.stream().distinct().count() == 1) {
                where.put(p, 1);
                return;
            }
            if (size > big) {
                toDisk(p, false);
                return;
            }
            int home = homeOf(size, step);
            while (true) {
                Integer n = zoneWithRoom(home);
                if (n != null) {
                    zones.get(n).slots[Arrays.asList(zones.get(n).slots).indexOf(null)] = p;
                    where.put(p, 2);
                    ages.add(p);
                    return;
                }
                if (frames() + framesOf(home) <= limit) {
                    zones.put(leastFreeNumber(), new Zone(home));
                } else if (cold() != null) {
                    toDisk(cold(), true);
                } else {
                    toDisk(p, true);
                    return;
                }
            }
        }

        void load(int p) {
            if (at(p) == 2) {
                ages.remove((Integer) p);
                ages.add(p);
            }
            if (at(p) == 3) {
                totals[2]++;
            }
        }

        int writeBack(int n) {
            int went = 0;
            while (went < n && cold() != null) {
                toDisk(cold(), false);
                went++;
            }
            return went;
        }

        int changeLimit(int n) {
            limit = n;
            int went = 0;
            while (frames() > n && cold() != null) {
                toDisk(cold(), true);
                went++;
            }
            return went;
        }

        int compact() {
            int before = frames();
            for (int s = step; s <= 16; s += step) {
                compactClass(s);
            }
            return before - frames();
        }

        private void compactClass(int s) {
            while (true) {
                List<Integer> open = new ArrayList<>();
                for (int n : zones.keySet()) {
                    if (zones.get(n).zoneClass == s && !zones.get(n).full()) {
                        open.add(n);
                    }
                }
                if (open.size() < 2) {
                    return;
                }
                int giver = open.get(0);
                for (int n : open) {
                    if (zones.get(n).pages() <= zones.get(giver).pages()) {
                        giver = n;
                    }
                }
                open.remove((Integer) giver);
                int taker = open.get(0);
                for (int n : open) {
                    if (zones.get(n).pages() > zones.get(taker).pages()) {
                        taker = n;
                    }
                }
                Integer[] from = zones.get(giver).slots;
                Integer[] to = zones.get(taker).slots;
                int last = from.length - 1;
                while (from[last] == null) {
                    last--;
                }
                to[Arrays.asList(to).indexOf(null)] = from[last];
                from[last] = null;
                totals[3]++;
                if (zones.get(giver).pages() == 0) {
                    zones.remove(giver);
                }
            }
        }

        void perform(Op op) {
            if (op.kind == 0) {
                store(op.page, op.data);
            } else if (op.kind == 1) {
                load(op.page);
            } else {
                drop(op.page);
            }
        }

        int framesBy(int otherStep) {
            int frames = 0;
            for (int s = otherStep; s <= 16; s += otherStep) {
                int count = 0;
                for (int p : ages) {
                    if (homeOf(cost(stored.get(p), 0), otherStep) == s) {
                        count++;
                    }
                }
                for (int room = 0; room < count; room += slotsOf(s)) {
                    frames += framesOf(s);
                }
            }
            return frames;
        }
    }

    // ---- classes and pieces

    static int framesOf(int s) {
        double least = 2;
        int best = 0;
        for (int k = 1; k <= 4; k++) {
            double part = (double) (16 * k - 16 * k / s * s) / (16 * k);
            if (part < least) {
                least = part;
                best = k;
            }
        }
        return best;
    }

    static int slotsOf(int s) {
        return 16 * framesOf(s) / s;
    }

    static int homeOf(int size, int step) {
        int s = step;
        while (s < size) {
            s += step;
        }
        return s;
    }

    /** All pieces that may begin at a cell, in the order in which the cut would take them. */
    private static List<Piece> piecesAt(List<Integer> cells, int i) {
        List<Piece> all = new ArrayList<>();
        for (int length = 16; length >= 2; length--) {
            if (i + length <= 16 && cells.subList(i, i + length).stream().distinct().count() == 1) {
                all.add(new Piece(0, i, length, 0, 2));
            }
        }
        for (int length = 8; length >= 2; length--) {
            for (int d = 2; d <= 15; d++) {
                if (i + length <= 16 && i - d >= 0
                    && cells.subList(i, i + length).equals(cells.subList(i - d, i - d + length))) {
                    all.add(new Piece(1, i, length, d, 3));
                }
            }
        }
        for (int length = 8; length >= 1; length--) {
            if (i + length <= 16) {
                all.add(new Piece(2, i, length, 0, length + 1));
            }
        }
        return all;
    }

    /** What all costs least from each cell on: index 0 .. 16. */
    private static int[] costs(List<Integer> cells) {
        int[] known = COSTS.get(cells);
        if (known != null) {
            return known;
        }
        int[] costs = new int[17];
        for (int i = 15; i >= 0; i--) {
            costs[i] = Integer.MAX_VALUE;
            for (Piece piece : piecesAt(cells, i)) {
                costs[i] = Math.min(costs[i], piece.cost + costs[i + piece.length]);
            }
        }
        COSTS.put(new ArrayList<>(cells), costs);
        return costs;
    }

    private static int cost(List<Integer> cells, int i) {
        return costs(cells)[i];
    }

    private static List<Piece> cut(List<Integer> cells) {
        int[] costs = costs(cells);
        List<Piece> cut = new ArrayList<>();
        int i = 0;
        while (i < 16) {
            for (Piece piece : piecesAt(cells, i)) {
                if (piece.cost + costs[i + piece.length] == costs[i]) {
                    cut.add(piece);
                    i += piece.length;
                    break;
                }
            }
        }
        return cut;
    }

    private static int fewest(List<Integer> cells) {
        int[] costs = costs(cells);
        int[] few = new int[17];
        for (int i = 15; i >= 0; i--) {
            few[i] = 99;
            for (Piece piece : piecesAt(cells, i)) {
                if (piece.cost + costs[i + piece.length] == costs[i]) {
                    few[i] = Math.min(few[i], 1 + few[i + piece.length]);
                }
            }
        }
        return few[0];
    }

    // ---- the text

    private static final Pattern TOKEN = Pattern.compile(" *(?:([a-z]+)|([0-9]+)|([;,])|([^ ]))");
    // S swap, F frames, T step, B big, D data, X x, O store, L load, R drop, N a whole.
    private static final String ITEM = "N(XN)?";
    private static final String LINE = "(SFNTNBN|D" + ITEM + "(," + ITEM + ")*|ONN|LN|RN)";
    private static final Pattern FORM = Pattern.compile(LINE + "(;" + LINE + ")*");
    private static final List<String> WORDS =
        List.of("swap", "frames", "step", "big", "data", "x", "store", "load", "drop");
    private static final String SIGNS = "SFTBDXOLR";

    private final List<Integer> tape = new ArrayList<>();
    private State state;
    private List<Op> ops = new ArrayList<>();
    private final Deque<State> history = new ArrayDeque<>();
    private int trouble;
    private int fault;
    private int place;

    private static List<Token> tokens(String text) {
        List<Token> tokens = new ArrayList<>();
        Matcher m = TOKEN.matcher(text);
        int at = 0;
        while (m.find(at)) {
            at = m.end();
            if (m.group(1) != null) {
                int w = WORDS.indexOf(m.group(1));
                tokens.add(new Token(w < 0 ? '?' : SIGNS.charAt(w), m.start(1), 0));
            } else if (m.group(2) != null) {
                boolean whole = m.group(2).length() <= 3;
                tokens.add(new Token(whole ? 'N' : '?', m.start(2), whole ? Integer.parseInt(m.group(2)) : 0));
            } else if (m.group(3) != null) {
                tokens.add(new Token(m.group(3).charAt(0), m.start(3), 0));
            } else {
                tokens.add(new Token('?', m.start(4), 0));
            }
        }
        tokens.add(new Token('$', text.length(), 0));
        return tokens;
    }

    private static boolean goesOn(List<Token> tokens, int count) {
        StringBuilder signs = new StringBuilder();
        for (int i = 0; i < count; i++) {
            signs.append(tokens.get(i).sign);
        }
        if (tokens.get(count - 1).sign == '$') {
            return FORM.matcher(signs.substring(0, count - 1)).matches();
        }
        Matcher m = FORM.matcher(signs);
        return m.matches() || m.hitEnd();
    }

    /** All faults that can be seen ahead of the first of form, and that one; the least of them counts. */
    private static Fault parse(String text, State into, List<Op> ops) {
        List<Token> all = tokens(text);
        List<Fault> faults = new ArrayList<>();
        int goes = 0;
        int ends = all.size() + 1;
        while (goes + 1 < ends) {
            int middle = (goes + ends) / 2;
            if (goesOn(all, middle)) {
                goes = middle;
            } else {
                ends = middle;
            }
        }
        List<Token> good = all.subList(0, goes);
        if (goes < all.size()) {
            faults.add(new Fault(all.get(goes).place, 1));
        }
        int swaps = 0;
        int from = 0;
        for (int i = 0; i < good.size(); i++) {
            char sign = good.get(i).sign;
            if (sign == ';' || sign == '$' || i == good.size() - 1) {
                List<Token> line = good.subList(from, sign == ';' || sign == '$' ? i : i + 1);
                Token behind = sign == ';' || sign == '$' ? good.get(i) : null;
                swaps += line(line, behind, swaps, into, ops, faults);
                from = i + 1;
            }
        }
        if (swaps == 0) {
            faults.add(new Fault(text.length(), 5));
        }
        return faults.stream().min(Comparator.comparingInt(Fault::place).thenComparingInt(Fault::number)).orElse(null);
    }

    private static int line(List<Token> line, Token behind, int swaps, State into, List<Op> ops, List<Fault> faults) {
        if (line.isEmpty()) {
            return 0;
        }
        Token first = line.get(0);
        if (first.sign == 'S') {
            if (swaps > 0) {
                faults.add(new Fault(first.place, 3));
            }
            into.limit = bounded(line, 2, 1, 24, faults);
            into.step = bounded(line, 4, 1, 4, faults);
            into.big = bounded(line, 6, 4, 15, faults);
            return 1;
        }
        if (swaps == 0) {
            faults.add(new Fault(first.place, 5));
        }
        if (first.sign == 'D') {
            if (into.data.size() >= 10) {
                faults.add(new Fault(first.place, 4));
            }
            dataLine(line, behind, into, faults);
            return 0;
        }
        if (ops.size() >= 24) {
            faults.add(new Fault(first.place, 4));
        }
        int page = bounded(line, 1, 0, 29, faults);
        int data = first.sign == 'O' ? bounded(line, 2, 0, into.data.size() - 1, faults) : -2;
        ops.add(new Op("OLR".indexOf(first.sign), page, data));
        return 0;
    }

    private static void dataLine(List<Token> line, Token behind, State into, List<Fault> faults) {
        List<Integer> cells = new ArrayList<>();
        for (int i = 1; i < line.size(); i++) {
            if (line.get(i).sign != 'N') {
                continue;
            }
            if (line.get(i - 1).sign == 'X') {
                int times = bounded(line, i, 1, 16, faults);
                for (int k = 1; k < times; k++) {
                    cells.add(cells.get(cells.size() - 1));
                }
            } else {
                cells.add(bounded(line, i, 0, 99, faults));
            }
            if (cells.size() > 16) {
                faults.add(new Fault(line.get(i).place, 6));
            }
        }
        if (behind != null && cells.size() < 16) {
            faults.add(new Fault(behind.place, 6));
        }
        into.data.add(cells);
    }

    private static int bounded(List<Token> line, int i, int least, int most, List<Fault> faults) {
        if (i >= line.size()) {
            return least;
        }
        Token t = line.get(i);
        if (t.value < least || t.value > most) {
            faults.add(new Fault(t.place, 2));
        }
        return t.value;
    }

    // ---- the calls

    int call(String name, int... a) {
        switch (name) {
            case "feed": return feed(a);
            case "fault": return fault;
            case "where": return trouble == 4 ? place : -1;
            case "size": return a[0] == 0 ? tape.size() : a[0] == 1 ? history.size() : -1;
            case "trouble": return trouble;
            case "onDisk": return onDisk(a[0]);
            default: break;
        }
        trouble = 0;
        int answer;
        try {
            answer = name.equals("swap") ? swap(a[0]) : refusable(name, a);
        } catch (Refused r) {
            trouble = r.number;
            boolean truth = name.equals("hold") || name.equals("release") || name.equals("undo");
            answer = truth ? 0 : -1;
        }
        return answer;
    }

    private static final class Refused extends RuntimeException {
        private static final long serialVersionUID = 1L;
        final int number;

        Refused(int number) {
            super(null, null, false, false);
            this.number = number;
        }
    }

    private static void need(boolean so, int number) {
        if (!so) {
            throw new Refused(number);
        }
    }

    private static boolean in(int v, int least, int most) {
        return least <= v && v <= most;
    }

    private int feed(int[] a) {
        if (tape.size() + 20 > 900) {
            return -1;
        }
        for (int v : a) {
            for (byte b : java.nio.ByteBuffer.allocate(4).putInt(v).array()) {
                tape.add(Byte.toUnsignedInt(b));
            }
        }
        return tape.size();
    }

    private int onDisk(int i) {
        if (state == null) {
            return THROWN;
        }
        List<Integer> pages = new ArrayList<>();
        state.where.forEach((p, w) -> {
            if (w == 3) {
                pages.add(p);
            }
        });
        return in(i, 0, pages.size() - 1) ? pages.get(i) : THROWN;
    }

    private int swap(int n) {
        need(in(n, 0, tape.size()), 2);
        StringBuilder text = new StringBuilder();
        for (int i = 0; i < n; i++) {
            text.append((char) (int) tape.get(i));
        }
        tape.clear();
        State fresh = new State();
        List<Op> freshOps = new ArrayList<>();
        Fault found = parse(text.toString(), fresh, freshOps);
        fault = found == null ? 0 : found.number;
        place = found == null ? -1 : found.place;
        need(found == null, 4);
        state = fresh;
        ops = freshOps;
        history.clear();
        return fresh.data.size();
    }

    private int refusable(String name, int[] a) {
        need(state != null, 1);
        State s = state;
        switch (name) {
            case "about":
                need(in(a[0], 0, 10), 1);
                return about(a[0]);
            case "cell":
                return needData(a[0]).get(needCell(a[1]));
            case "squeezed":
                return cost(needData(a[0]), 0);
            case "pieces":
                return cut(needData(a[0])).size();
            case "piece":
                return piece(cut(needData(a[0])), a[1], a[2]);
            case "fewest":
                return fewest(needData(a[0]));
            case "rest":
                return cost(needData(a[0]), needCell(a[1]));
            case "ranked":
                return ranked(a[0]);
            case "sort":
                if (needData(a[0]).stream().distinct().count() == 1) {
                    return 1;
                }
                return cost(needData(a[0]), 0) > s.big ? 2 : 0;
            case "home":
                need(in(a[0], 2, 15), 2);
                return homeOf(a[0], s.step);
            case "sizes":
                needClass(a[0]);
                need(in(a[1], 0, 4), 1);
                return sizes(a[0], a[1]);
            case "gain":
                return s.copy().compact();
            case "next":
                need(in(a[0], 2, 15), 2);
                return next(homeOf(a[0], s.step));
            case "coldest":
                needClass(a[0]);
                return s.ages.stream().filter(p -> zoneOf(p).zoneClass == a[0]).findFirst().orElse(-2);
            case "fittest":
                int best = 1;
                for (int step = 1; step <= 4; step++) {
                    best = s.framesBy(step) < s.framesBy(best) ? step : best;
                }
                return best;
            default:
                return pool(name, a);
        }
    }

    private int pool(String name, int[] a) {
        State s = state;
        switch (name) {
            case "zone":
                need(s.zones.containsKey(a[0]) && in(a[1], 0, 2), 1);
                Zone z = s.zones.get(a[0]);
                return new int[] {z.zoneClass, framesOf(z.zoneClass), z.pages()}[a[1]];
            case "slot":
                need(s.zones.containsKey(a[0]) && in(a[1], 0, s.zones.get(a[0]).slots.length - 1), 1);
                Integer inside = s.zones.get(a[0]).slots[a[1]];
                return inside == null ? -2 : inside;
            case "page":
                return s.at(needPage(a[0]));
            case "pooled":
                needPage(a[0]);
                need(in(a[1], 0, 4), 1);
                need(s.at(a[0]) == 2, 5);
                return pooled(a[0], a[1]);
            case "read":
                needPage(a[0]);
                needCell(a[1]);
                need(s.at(a[0]) != 0, 5);
                return s.stored.get(a[0]).get(a[1]);
            case "aged":
                need(in(a[0], 0, s.ages.size() - 1), 1);
                return s.ages.get(a[0]);
            case "total":
                need(in(a[0], 0, 3), 1);
                return s.totals[a[0]];
            case "same":
                needPage(a[0]);
                needPage(a[1]);
                need(s.at(a[0]) != 0 && s.at(a[1]) != 0, 5);
                return s.stored.get(a[0]).equals(s.stored.get(a[1])) ? 1 : 0;
            case "waste":
                return 16 * s.frames() - about(10);
            default:
                return thought(name, a);
        }
    }

    private int thought(String name, int[] a) {
        State s = state.copy();
        switch (name) {
            case "would":
                need(in(a[0], 1, 24), 2);
                compactIf(s, a[1]);
                return s.changeLimit(a[0]);
            case "freeing":
                int before = s.frames();
                for (int n = 1; s.writeBack(1) == 1; n++) {
                    if (s.frames() < before) {
                        return n;
                    }
                }
                return -2;
            case "holds":
                compactIf(s, a[0]);
                int least = 1;
                while (s.copy().changeLimit(least) > 0) {
                    least++;
                }
                return least;
            case "pushes":
            case "pushed":
                needPage(a[0]);
                needData(a[1]);
                s.store(a[0], a[1]);
                if (name.equals("pushes")) {
                    return s.gone.size();
                }
                need(in(a[2], 0, s.gone.size() - 1), 1);
                return s.gone.get(a[2]);
            case "foretold":
                need(in(a[2], 0, 2), 1);
                need(in(a[0], 1, 24) && in(a[1], 1, 4), 2);
                return foretell(a[0], a[1])[a[2]];
            case "enough":
                for (int limit = 1; limit <= 24; limit++) {
                    if (foretell(limit, s.step)[1] == 0) {
                        return limit;
                    }
                }
                return -2;
            case "op":
                need(in(a[0], 0, ops.size() - 1) && in(a[1], 0, 2), 1);
                Op op = ops.get(a[0]);
                return new int[] {op.kind, op.page, op.data}[a[1]];
            default:
                return act(name, a);
        }
    }

    private int act(String name, int[] a) {
        State s = state;
        switch (name) {
            case "store":
                needPage(a[0]);
                needData(a[1]);
                keep();
                s.store(a[0], a[1]);
                return s.at(a[0]);
            case "load":
                needPage(a[0]);
                need(s.at(a[0]) != 0, 5);
                keep();
                s.load(a[0]);
                return s.at(a[0]);
            case "drop":
                needPage(a[0]);
                need(s.at(a[0]) != 0, 5);
                keep();
                int was = s.at(a[0]);
                s.drop(a[0]);
                return was;
            case "hold":
                needPage(a[0]);
                need(s.at(a[0]) == 2 && !s.held.contains(a[0]), 5);
                keep();
                s.held.add(a[0]);
                return 1;
            case "release":
                needPage(a[0]);
                need(s.held.contains(a[0]), 5);
                keep();
                s.held.remove((Integer) a[0]);
                return 1;
            case "poke":
                needData(a[0]);
                needCell(a[1]);
                need(in(a[2], 0, 99), 2);
                keep();
                return s.data.get(a[0]).set(a[1], a[2]);
            case "writeBack":
                need(in(a[0], 1, 30), 2);
                keep();
                return s.writeBack(a[0]);
            case "limit":
                need(in(a[0], 1, 24), 2);
                keep();
                return s.changeLimit(a[0]);
            case "compact":
                keep();
                return s.compact();
            case "run":
                need(in(a[0], 0, ops.size() - 1), 1);
                need(in(a[1], 1, 24), 2);
                keep();
                List<Op> some = ops.subList(a[0], Math.min(ops.size(), a[0] + a[1]));
                some.forEach(s::perform);
                return some.size();
            case "undo":
                need(!history.isEmpty(), 1);
                state = history.removeLast();
                return 1;
            default:
                throw new IllegalArgumentException(name);
        }
    }

    private void keep() {
        history.addLast(state.copy());
        if (history.size() > 10) {
            history.removeFirst();
        }
    }

    private int[] foretell(int limit, int step) {
        State s = new State();
        s.limit = limit;
        s.step = step;
        s.big = state.big;
        s.data = state.data;
        ops.forEach(s::perform);
        return s.totals;
    }

    private static void compactIf(State s, int yes) {
        if (yes == 1) {
            s.compact();
        }
    }

    private int about(int what) {
        State s = state;
        int[] counts = new int[4];
        s.where.values().forEach(w -> counts[w]++);
        int units = s.ages.stream().mapToInt(p -> cost(s.stored.get(p), 0)).sum();
        return new int[] {s.limit, s.step, s.big, s.data.size(), ops.size(), s.frames(), s.zones.size(), counts[2],
            counts[1], counts[3], units}[what];
    }

    private static int piece(List<Piece> cut, int i, int what) {
        need(in(i, 0, cut.size() - 1) && in(what, 0, 3), 1);
        Piece piece = cut.get(i);
        return new int[] {piece.sort, piece.first, piece.length, piece.distance}[what];
    }

    private int ranked(int k) {
        List<Integer> order = new ArrayList<>();
        for (int d = 0; d < state.data.size(); d++) {
            order.add(d);
        }
        order.sort(Comparator.comparingInt(d -> cost(state.data.get(d), 0)));
        need(in(k, 0, order.size() - 1), 1);
        return order.get(k);
    }

    private int sizes(int s, int what) {
        int zones = 0;
        int pages = 0;
        for (Zone z : state.zones.values()) {
            zones += z.zoneClass == s ? 1 : 0;
            pages += z.zoneClass == s ? z.pages() : 0;
        }
        return new int[] {framesOf(s), slotsOf(s), 16 * framesOf(s) - s * slotsOf(s), zones, pages}[what];
    }

    private int next(int home) {
        Integer z = state.zoneWithRoom(home);
        if (z != null) {
            return z;
        }
        return state.frames() + framesOf(home) <= state.limit ? state.leastFreeNumber() : -2;
    }

    private Zone zoneOf(int p) {
        for (Zone z : state.zones.values()) {
            if (Arrays.asList(z.slots).contains(p)) {
                return z;
            }
        }
        throw new IllegalStateException("a page without a zone");
    }

    private int pooled(int p, int what) {
        switch (what) {
            case 0: return cost(state.stored.get(p), 0);
            case 1: return state.zones.keySet().stream().filter(n -> state.zones.get(n) == zoneOf(p)).findFirst().get();
            case 2: return Arrays.asList(zoneOf(p).slots).indexOf(p);
            case 3: return state.ages.indexOf(p);
            default: return state.held.contains(p) ? 1 : 0;
        }
    }

    private List<Integer> needData(int d) {
        need(in(d, 0, state.data.size() - 1), 1);
        return state.data.get(d);
    }

    private static int needCell(int i) {
        need(in(i, 0, 15), 1);
        return i;
    }

    private static int needPage(int p) {
        need(in(p, 0, 29), 1);
        return p;
    }

    private void needClass(int s) {
        need(in(s, 1, 16) && s % state.step == 0, 1);
    }
}
