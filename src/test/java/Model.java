import java.util.ArrayDeque;
import java.util.ArrayList;
import java.util.Arrays;
import java.util.Deque;
import java.util.HashMap;
import java.util.List;
import java.util.Map;

/**
 * The document once more, by the slowest and plainest means: all tables, all labelings and all ways are tried.
 * ModelTest holds IntervalRouter against it.
 */
public final class Model {
    private record Link(int u, int v, int length) {
        boolean of(int node) {
            return u == node || v == node;
        }

        int from(int node) {
            return u == node ? v : u;
        }
    }

    private record Saved(int n, List<Link> links, int[] labels, int[][] tables) {
    }

    private int n;
    private List<Link> links = new ArrayList<>();
    private int[] labels = new int[0];
    private int[][] tables = new int[0][0];
    private String text = "";
    private final Deque<Saved> saved = new ArrayDeque<>();
    private final Map<Integer, Integer> distances = new HashMap<>();

    // ---- network

    public int begin(int nodes) {
        argument(nodes >= 0 && nodes <= 9);
        save();
        int before = links.size();
        become(nodes, new ArrayList<>());
        return before;
    }

    public int addLink(int u, int v, int length) {
        index(isNode(u) && isNode(v));
        argument(u != v && length >= 1 && length <= 9 && linkBetween(links, u, v) < 0);
        state(links.size() < 16);
        save();
        links.add(new Link(u, v, length));
        empty();
        return links.size() - 1;
    }

    public int removeLink(int link) {
        index(isLink(link));
        save();
        links.remove(link);
        empty();
        return links.size();
    }

    public int setLength(int link, int length) {
        index(isLink(link));
        argument(length >= 1 && length <= 9);
        save();
        Link old = links.set(link, new Link(links.get(link).u, links.get(link).v, length));
        empty();
        return old.length;
    }

    public int size(boolean ofLinks) {
        return ofLinks ? links.size() : n;
    }

    public int link(int link, int what) {
        index(isLink(link));
        argument(what >= 0 && what <= 2);
        Link l = links.get(link);
        return new int[] {l.u, l.v, l.length}[what];
    }

    public int distance(int u, int v) {
        index(isNode(u) && isNode(v));
        return distances.computeIfAbsent(u * 10 + v, pair -> shortest(u, v, 1 << u));
    }

    /** Tries all ways without a repeated node. */
    private int shortest(int u, int v, int seen) {
        if (u == v) {
            return 0;
        }
        int best = -1;
        for (Link l : links) {
            if (l.of(u) && (seen >> l.from(u) & 1) == 0) {
                int rest = shortest(l.from(u), v, seen | 1 << l.from(u));
                if (rest >= 0 && (best < 0 || rest + l.length < best)) {
                    best = rest + l.length;
                }
            }
        }
        return best;
    }

    public int goodLinks(int v, int w) {
        index(isNode(v) && isNode(w));
        int set = 0;
        int all = distance(v, w);
        for (int i = 0; i < links.size() && all > 0; i++) {
            Link l = links.get(i);
            if (l.of(v) && distance(l.from(v), w) >= 0 && l.length + distance(l.from(v), w) == all) {
                set |= 1 << i;
            }
        }
        return set;
    }

    public int kind() {
        if (n == 0) {
            return 0;
        }
        boolean allTwo = n >= 3;
        for (int v = 0; v < n; v++) {
            if (distance(0, v) < 0) {
                return 0;
            }
            int node = v;
            allTwo &= links.stream().filter(l -> l.of(node)).count() == 2;
        }
        return links.size() == n - 1 ? 1 : allTwo ? 2 : 3;
    }

    // ---- labels

    public int label(int v) {
        index(isNode(v));
        return labels[v];
    }

    public int nodeWith(int label) {
        index(isNode(label));
        for (int v = 0; v < n; v++) {
            if (labels[v] == label) {
                return v;
            }
        }
        throw new AssertionError();
    }

    public int setLabels(int rule, int r) {
        argument(rule >= 0 && rule <= 3);
        index(isNode(r));
        state(rule != 3 || n <= 6);
        int[] next = rule == 0 ? initial(n) : rule == 1 ? depthFirst(r) : rule == 2 ? ranks(r) : best();
        save();
        labels = next;
        empty();
        return labels[n - 1];
    }

    private int[] depthFirst(int r) {
        List<Integer> order = new ArrayList<>();
        visit(r, order);
        for (int v = 0; v < n; v++) {
            if (!order.contains(v)) {
                order.add(v);
            }
        }
        return places(order);
    }

    private void visit(int v, List<Integer> order) {
        order.add(v);
        for (Link l : links) {
            if (l.of(v) && !order.contains(l.from(v))) {
                visit(l.from(v), order);
            }
        }
    }

    private int[] ranks(int r) {
        List<Integer> order = new ArrayList<>();
        for (int v = 0; v < n; v++) {
            order.add(v);
        }
        order.sort((a, b) -> Integer.compare(farness(r, a), farness(r, b)));
        return places(order);
    }

    private int farness(int r, int v) {
        int d = distance(r, v);
        return d < 0 ? Integer.MAX_VALUE : d;
    }

    private int[] places(List<Integer> order) {
        int[] out = new int[n];
        for (int v = 0; v < n; v++) {
            out[v] = order.indexOf(v);
        }
        return out;
    }

    public int swapLabels(int u, int v) {
        index(isNode(u) && isNode(v));
        save();
        int kept = labels[u];
        labels[u] = labels[v];
        labels[v] = kept;
        empty();
        return labels[u];
    }

    public int turn(int by) {
        argument(by >= 0 && by <= 9);
        state(n > 0);
        save();
        for (int v = 0; v < n; v++) {
            for (int i = 0; i < by; i++) {
                labels[v] = labels[v] == n - 1 ? 0 : labels[v] + 1;
            }
        }
        empty();
        return labels[0];
    }

    public int shuffle(int seed) {
        argument(seed >= 0 && seed <= 999999);
        save();
        labels = initial(n);
        long s = seed;
        for (int i = n - 1; i >= 1; i--) {
            s = Math.floorMod(Math.addExact(Math.multiplyExact(1103515245L, s), 12345L), 2147483648L);
            int j = (int) Math.floorMod(Math.floorDiv(s, 65536L), (long) (i + 1));
            int kept = labels[i];
            labels[i] = labels[j];
            labels[j] = kept;
        }
        empty();
        return n == 0 ? -1 : labels[0];
    }

    // ---- tables

    public int makeTables() {
        save();
        for (int v = 0; v < n; v++) {
            tables[v] = bestTable(v, labels, goodSets(v));
        }
        return tableSize(-1);
    }

    private int[] goodSets(int v) {
        int[] sets = new int[n];
        for (int w = 0; w < n; w++) {
            sets[w] = goodLinks(v, w);
        }
        return sets;
    }

    /** Tries all tables in lexicographic order. */
    private int[] bestTable(int v, int[] naming, int[] goodSets) {
        int[] sets = new int[n];
        for (int w = 0; w < n; w++) {
            sets[naming[w]] = goodSets[w];
        }
        int[][] best = {null};
        tryTables(sets, naming[v], 0, new int[n], best);
        return best[0];
    }

    private void tryTables(int[] sets, int own, int label, int[] table, int[][] best) {
        if (label == n) {
            if (best[0] == null || sizeOf(table, own) < sizeOf(best[0], own)) {
                best[0] = table.clone();
            }
            return;
        }
        table[label] = -1;
        if (sets[label] == 0) {
            tryTables(sets, own, label + 1, table, best);
        }
        for (int link = 0; link < 16; link++) {
            if ((sets[label] >> link & 1) == 1) {
                table[label] = link;
                tryTables(sets, own, label + 1, table, best);
            }
        }
    }

    /** The runs of a link, as {first, last}, in the order of the firsts. */
    private List<int[]> runList(int[] table, int own, int link) {
        List<Integer> circle = new ArrayList<>();
        for (int i = 1; i < table.length; i++) {
            circle.add((own + i) % table.length);
        }
        int m = circle.size();
        List<int[]> out = new ArrayList<>();
        int having = 0;
        for (int i = 0; i < m; i++) {
            if (table[circle.get(i)] != link) {
                continue;
            }
            having++;
            if (table[circle.get((i + m - 1) % m)] != link) {
                int j = i;
                while (table[circle.get((j + 1) % m)] == link) {
                    j++;
                }
                out.add(new int[] {circle.get(i), circle.get(j % m)});
            }
        }
        if (having == m && m > 0) {
            out.add(new int[] {own == 0 ? 1 : 0, own == m ? m - 1 : m});
        }
        out.sort((a, b) -> Integer.compare(a[0], b[0]));
        return out;
    }

    private int sizeOf(int[] table, int own) {
        int total = 0;
        for (int link = 0; link < links.size(); link++) {
            total += runList(table, own, link).size();
        }
        return total;
    }

    private int compactnessOf(int[] table, int own) {
        int most = 0;
        for (int link = 0; link < links.size(); link++) {
            most = Math.max(most, runList(table, own, link).size());
        }
        return most;
    }

    public int setRange(int v, int link, int from, int to) {
        index(isNode(v) && (link == -1 || isLink(link)) && isNode(from) && isNode(to));
        argument(link == -1 || links.get(link).of(v));
        save();
        int changed = 0;
        for (int label = from;; label = (label + 1) % n) {
            if (label != labels[v] && tables[v][label] != link) {
                tables[v][label] = link;
                changed++;
            }
            if (label == to) {
                return changed;
            }
        }
    }

    public int entry(int v, int label) {
        index(isNode(v) && isNode(label));
        return tables[v][label];
    }

    public int runs(int v, int link) {
        index(isNode(v) && isLink(link));
        argument(links.get(link).of(v));
        return runList(tables[v], labels[v], link).size();
    }

    public int runEnd(int v, int link, int run, boolean last) {
        index(isNode(v) && isLink(link) && links.get(link).of(v));
        List<int[]> list = runList(tables[v], labels[v], link);
        index(run >= 0 && run < list.size());
        return list.get(run)[last ? 1 : 0];
    }

    public int tableSize(int v) {
        index(v == -1 || isNode(v));
        if (v >= 0) {
            return sizeOf(tables[v], labels[v]);
        }
        int total = 0;
        for (int u = 0; u < n; u++) {
            total += tableSize(u);
        }
        return total;
    }

    public int compactness() {
        int most = 0;
        for (int v = 0; v < n; v++) {
            most = Math.max(most, compactnessOf(tables[v], labels[v]));
        }
        return most;
    }

    public int bestSize(int v) {
        index(isNode(v));
        return sizeOf(bestTable(v, labels, goodSets(v)), labels[v]);
    }

    // ---- checks and letters

    public int check(int v, int w) {
        index(isNode(v) && isNode(w));
        if (v == w) {
            return 0;
        }
        if (distance(v, w) < 0) {
            return 4;
        }
        int link = tables[v][labels[w]];
        return link < 0 ? 3 : (goodLinks(v, w) >> link & 1) == 1 ? 1 : 2;
    }

    public int checked(int result) {
        argument(result >= 0 && result <= 4);
        int count = 0;
        for (int v = 0; v < n; v++) {
            for (int w = 0; w < n; w++) {
                count += check(v, w) == result ? 1 : 0;
            }
        }
        return count;
    }

    /** The links of a letter's way, a -1 behind them if it stops or goes around. */
    private List<Integer> way(int v, int w, int broken) {
        List<Integer> out = new ArrayList<>();
        int at = v;
        while (at != w) {
            int link = out.size() == n ? -1 : tables[at][labels[w]];
            if (link == broken && link != -1) {
                link = -1;
                for (int i = links.size() - 1; i >= 0; i--) {
                    link = i != broken && links.get(i).of(at) ? i : link;
                }
            }
            out.add(link);
            if (link == -1) {
                return out;
            }
            at = links.get(link).from(at);
        }
        return out;
    }

    public int send(int v, int w) {
        index(isNode(v) && isNode(w));
        List<Integer> way = way(v, w, -1);
        return way.contains(-1) ? -1 : way.stream().mapToInt(i -> links.get(i).length).sum();
    }

    public int wayNode(int v, int w, int place) {
        index(isNode(v) && isNode(w));
        argument(place >= 0);
        List<Integer> nodes = new ArrayList<>(List.of(v));
        for (int link : way(v, w, -1)) {
            if (link >= 0) {
                nodes.add(links.get(link).from(nodes.get(nodes.size() - 1)));
            }
        }
        return place < nodes.size() ? nodes.get(place) : -1;
    }

    private interface PairTest {
        boolean holds(int v, int w);
    }

    private int pairs(PairTest test) {
        int count = 0;
        for (int v = 0; v < n; v++) {
            for (int w = 0; w < n; w++) {
                count += v != w && test.holds(v, w) ? 1 : 0;
            }
        }
        return count;
    }

    private boolean arrives(int v, int w, int broken) {
        return !way(v, w, broken).contains(-1);
    }

    public int arriving() {
        return pairs((v, w) -> arrives(v, w, -1));
    }

    public double stretch() {
        double[] most = {0.0};
        pairs((v, w) -> {
            if (arrives(v, w, -1)) {
                most[0] = Math.max(most[0], (double) send(v, w) / (double) distance(v, w));
            }
            return false;
        });
        return most[0];
    }

    public int load(int link) {
        index(isLink(link));
        return pairs((v, w) -> arrives(v, w, -1) && way(v, w, -1).contains(link));
    }

    public int lostWithout(int link) {
        index(isLink(link));
        return pairs((v, w) -> arrives(v, w, -1) && !arrives(v, w, link));
    }

    // ---- best labelings

    /** The compactness and the size of the best tables under a labeling. */
    private int[] worth(int[] naming, int[][] sets) {
        int compact = 0;
        int size = 0;
        for (int v = 0; v < n; v++) {
            int[] table = bestTable(v, naming, sets[v]);
            compact = Math.max(compact, compactnessOf(table, naming[v]));
            size += sizeOf(table, naming[v]);
        }
        return new int[] {compact, size};
    }

    private List<int[]> allLabelings() {
        List<int[]> out = new ArrayList<>();
        extend(new int[n], 0, 0, out);
        return out;
    }

    private void extend(int[] prefix, int length, int used, List<int[]> out) {
        if (length == n) {
            out.add(prefix.clone());
        }
        for (int label = 0; label < n && length < n; label++) {
            if ((used >> label & 1) == 0) {
                prefix[length] = label;
                extend(prefix, length + 1, used | 1 << label, out);
            }
        }
    }

    private int[][] allGoodSets() {
        int[][] sets = new int[n][];
        for (int v = 0; v < n; v++) {
            sets[v] = goodSets(v);
        }
        return sets;
    }

    private int[] best() {
        int[][] sets = allGoodSets();
        int[] best = null;
        int[] bestWorth = null;
        for (int[] naming : allLabelings()) {
            int[] worth = worth(naming, sets);
            if (best == null || Arrays.compare(worth, bestWorth) < 0) {
                best = naming;
                bestWorth = worth;
            }
        }
        return best;
    }

    public int bestCompactness() {
        state(n <= 6);
        return worth(best(), allGoodSets())[0];
    }

    public int labelings(int limit) {
        argument(limit >= 0 && limit <= 9);
        state(n <= 6);
        int[][] sets = allGoodSets();
        return (int) allLabelings().stream().filter(naming -> worth(naming, sets)[0] <= limit).count();
    }

    // ---- text

    public int append(int value) {
        argument(value >= 0 && value <= 127);
        state(text.length() < 100);
        text += (char) value;
        return text.length();
    }

    public int clearText() {
        int before = text.length();
        text = "";
        return before;
    }

    /** Tries each beginning of the text: the first byte that no text can go on with is the wrong one. */
    public int parse() {
        List<Link> read = new ArrayList<>();
        for (int at = 0; at < text.length(); at++) {
            if (!canStand(at, read)) {
                return -10 - at;
            }
            if (at > 0 && at % 4 == 0) {
                read.add(new Link(digit(at - 2), digit(at - 1), digit(at)));
            }
        }
        if (text.length() % 4 != 1) {
            return -10 - text.length();
        }
        save();
        become(digit(0), read);
        return links.size();
    }

    private boolean canStand(int at, List<Link> read) {
        if (at % 4 == 1) {
            return text.charAt(at) == ';';
        }
        if (!"0123456789".contains(text.substring(at, at + 1))) {
            return false;
        }
        int d = digit(at);
        if (at == 0) {
            return true;
        }
        if (at % 4 == 2) {
            return d < digit(0) && read.size() < 16;
        }
        if (at % 4 == 3) {
            return d < digit(0) && d != digit(at - 1) && linkBetween(read, digit(at - 1), d) < 0;
        }
        return d > 0;
    }

    private int digit(int at) {
        return text.charAt(at) - '0';
    }

    // ---- state

    public int undo() {
        state(!saved.isEmpty());
        Saved s = saved.removeLast();
        n = s.n;
        links = s.links;
        labels = s.labels;
        tables = s.tables;
        distances.clear();
        return saved.size();
    }

    public long digest() {
        List<Integer> values = new ArrayList<>(List.of(text.length(), n, links.size()));
        for (Link l : links) {
            values.addAll(List.of(l.u, l.v, l.length));
        }
        for (int v = 0; v < n; v++) {
            values.add(labels[v]);
        }
        for (int[] table : tables) {
            for (int entry : table) {
                values.add(entry);
            }
        }
        values.addAll(List.of(tableSize(-1), compactness()));
        for (int i = 0; i < 5; i++) {
            values.add(checked(i));
        }
        values.addAll(List.of(arriving(), saved.size()));
        long h = 3083;
        for (int value : values) {
            h = 31 * h + value;
        }
        return h;
    }

    private void save() {
        int[][] copy = new int[n][];
        for (int v = 0; v < n; v++) {
            copy[v] = tables[v].clone();
        }
        saved.addLast(new Saved(n, new ArrayList<>(links), labels.clone(), copy));
        if (saved.size() > 4) {
            saved.removeFirst();
        }
    }

    private void become(int nodes, List<Link> newLinks) {
        n = nodes;
        links = newLinks;
        labels = initial(n);
        empty();
    }

    private void empty() {
        distances.clear();
        tables = new int[n][n];
        for (int[] table : tables) {
            Arrays.fill(table, -1);
        }
    }

    private static int[] initial(int count) {
        int[] out = new int[count];
        for (int i = 0; i < count; i++) {
            out[i] = i;
        }
        return out;
    }

    private static int linkBetween(List<Link> list, int u, int v) {
        for (int i = 0; i < list.size(); i++) {
            if (list.get(i).of(u) && list.get(i).from(u) == v) {
                return i;
            }
        }
        return -1;
    }

    private boolean isNode(int v) {
        return v >= 0 && v < n;
    }

    private boolean isLink(int link) {
        return link >= 0 && link < links.size();
    }

    private static void index(boolean fine) {
        if (!fine) {
            throw new IndexOutOfBoundsException();
        }
    }

    private static void argument(boolean fine) {
        if (!fine) {
            throw new IllegalArgumentException();
        }
    }

    private static void state(boolean fine) {
        if (!fine) {
            throw new IllegalStateException();
        }
    }
}
