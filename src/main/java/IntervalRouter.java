import java.util.Arrays;

/** A workbench for routing by intervals of names. README.md tells how it is used. */
public final class IntervalRouter {
    public static final int NONE = -1;

    private static final int MAX_NODES = 9;
    private static final int MAX_LINKS = 16;
    private static final int MAX_DEGREE = MAX_NODES - 1;
    private static final int MAX_LENGTH = 9;
    private static final int MAX_TURN = 9;
    private static final int MAX_SEED = 999999;
    private static final int MAX_LIMIT = 9;
    private static final int MAX_TEXT = 100;
    private static final int MAX_BYTE = 127;
    private static final int MAX_SAVED = 4;
    private static final int MAX_SEARCHED = 6;
    private static final int MAX_LABELINGS = 720;
    private static final int CHECK_RESULTS = 5;

    /** Stands for a missing distance: above every real one, and sums of it do not overflow. */
    private static final int FAR = 1000;

    private static final int RULE_INITIAL = 0;
    private static final int RULE_DEPTH_FIRST = 1;
    private static final int RULE_RANK = 2;
    private static final int RULE_BEST = 3;

    private final State state;
    private final State draft;
    private final History history;
    private final Ways ways;
    private final Ring ring;
    private final TableMaker maker;
    private final Search search;
    private final Letter letter;
    private final Labeler labeler;
    private final NetworkText text;

    public IntervalRouter() {
        state = new State();
        draft = new State();
        history = new History();
        ways = new Ways();
        ring = new Ring();
        maker = new TableMaker();
        search = new Search();
        letter = new Letter();
        labeler = new Labeler();
        text = new NetworkText();
    }

    // ---- network

    public int begin(int nodes) throws IllegalArgumentException {
        needRange(nodes, 0, MAX_NODES);
        int linksBefore = state.links;
        history.save(state);
        state.start(nodes);
        networkChanged();
        return linksBefore;
    }

    public int addLink(int u, int v, int length)
            throws IndexOutOfBoundsException, IllegalArgumentException, IllegalStateException {
        needNode(u);
        needNode(v);
        needRange(length, 1, MAX_LENGTH);
        if (u == v || state.joined(u, v)) {
            throw new IllegalArgumentException("these nodes cannot be joined");
        }
        if (state.links >= MAX_LINKS) {
            throw new IllegalStateException("there are 16 links");
        }
        history.save(state);
        state.join(u, v, length);
        networkChanged();
        return state.links - 1;
    }

    public int removeLink(int link) throws IndexOutOfBoundsException {
        needLink(link);
        history.save(state);
        state.drop(link);
        networkChanged();
        return state.links;
    }

    public int setLength(int link, int length) throws IndexOutOfBoundsException, IllegalArgumentException {
        needLink(link);
        needRange(length, 1, MAX_LENGTH);
        int lengthBefore = state.lengths[link];
        history.save(state);
        state.lengths[link] = length;
        networkChanged();
        return lengthBefore;
    }

    public int size(boolean links) {
        return links ? state.links : state.nodes;
    }

    public int link(int link, int what) throws IndexOutOfBoundsException, IllegalArgumentException {
        needLink(link);
        needRange(what, 0, 2);
        return state.linkValue(link, what);
    }

    public int distance(int u, int v) throws IndexOutOfBoundsException {
        needNode(u);
        needNode(v);
        int far = ways.between(u, v);
        return far == FAR ? NONE : far;
    }

    public int goodLinks(int v, int w) throws IndexOutOfBoundsException {
        needNode(v);
        needNode(w);
        return ways.good(v, w);
    }

    public int kind() {
        if (state.nodes == 0 || !ways.connected(state.nodes)) {
            return 0;
        }
        if (state.links == state.nodes - 1) {
            return 1;
        }
        return isRing() ? 2 : 3;
    }

    // ---- labels

    public int label(int v) throws IndexOutOfBoundsException {
        needNode(v);
        return state.labels[v];
    }

    public int nodeWith(int label) throws IndexOutOfBoundsException {
        needLabel(label);
        return state.holder(label);
    }

    public int setLabels(int rule, int r)
            throws IllegalArgumentException, IndexOutOfBoundsException, IllegalStateException {
        needRange(rule, RULE_INITIAL, RULE_BEST);
        needNode(r);
        if (rule == RULE_BEST) {
            needSearchable();
        }
        history.save(state);
        if (rule == RULE_INITIAL) {
            state.resetLabels();
        } else if (rule == RULE_DEPTH_FIRST) {
            labeler.depthFirst(state, r);
        } else if (rule == RULE_RANK) {
            labeler.byRank(state, ways, r);
        } else {
            search.ensure(ways, state.nodes, maker);
            search.copyBest(state);
        }
        state.clearEntries();
        return state.labels[state.nodes - 1];
    }

    public int swapLabels(int u, int v) throws IndexOutOfBoundsException {
        needNode(u);
        needNode(v);
        history.save(state);
        state.exchangeLabels(u, v);
        state.clearEntries();
        return state.labels[u];
    }

    public int turn(int by) throws IllegalArgumentException, IllegalStateException {
        needRange(by, 0, MAX_TURN);
        if (state.nodes == 0) {
            throw new IllegalStateException("there are no nodes");
        }
        history.save(state);
        for (int v = 0; v < state.nodes; v++) {
            state.labels[v] = (state.labels[v] + by) % state.nodes;
        }
        state.clearEntries();
        return state.labels[0];
    }

    public int shuffle(int seed) throws IllegalArgumentException {
        needRange(seed, 0, MAX_SEED);
        history.save(state);
        labeler.atRandom(state, seed);
        state.clearEntries();
        return state.nodes == 0 ? NONE : state.labels[0];
    }

    // ---- tables

    public int makeTables() {
        history.save(state);
        maker.seat(state.labels, state.nodes);
        int total = 0;
        for (int v = 0; v < state.nodes; v++) {
            maker.fill(ways, v, state.labels[v], ring);
            state.storeTable(v, ring);
            total += ring.allRuns();
        }
        return total;
    }

    public int setRange(int v, int link, int from, int to) throws IndexOutOfBoundsException, IllegalArgumentException {
        needNode(v);
        if (link != NONE) {
            needLink(link);
        }
        needLabel(from);
        needLabel(to);
        if (link != NONE && !state.touches(link, v)) {
            throw new IllegalArgumentException("the link is not one of the node");
        }
        history.save(state);
        return state.setInterval(v, link, from, to);
    }

    public int entry(int v, int label) throws IndexOutOfBoundsException {
        needNode(v);
        needLabel(label);
        return state.entryAt(v, label);
    }

    public int runs(int v, int link) throws IndexOutOfBoundsException, IllegalArgumentException {
        needNode(v);
        needLink(link);
        if (!state.touches(link, v)) {
            throw new IllegalArgumentException("the link is not one of the node");
        }
        ring.read(state, v);
        return ring.runsOf(link);
    }

    public int runEnd(int v, int link, int run, boolean last) throws IndexOutOfBoundsException {
        needNode(v);
        needLink(link);
        if (!state.touches(link, v)) {
            throw new IndexOutOfBoundsException("the link is not one of the node");
        }
        ring.read(state, v);
        int first = ring.beginningOf(link, run);
        if (first == NONE) {
            throw new IndexOutOfBoundsException("there is no such run");
        }
        int place = last ? ring.endOfRunAt(first) : first;
        return Ring.labelAt(place, state.labels[v]);
    }

    public int tableSize(int v) throws IndexOutOfBoundsException {
        if (v == NONE) {
            return networkSize();
        }
        needNode(v);
        ring.read(state, v);
        return ring.allRuns();
    }

    public int compactness() {
        int most = 0;
        for (int v = 0; v < state.nodes; v++) {
            ring.read(state, v);
            most = Math.max(most, ring.mostRuns());
        }
        return most;
    }

    public int bestSize(int v) throws IndexOutOfBoundsException {
        needNode(v);
        maker.seat(state.labels, state.nodes);
        maker.fill(ways, v, state.labels[v], ring);
        return ring.allRuns();
    }

    // ---- checks and letters

    public int check(int v, int w) throws IndexOutOfBoundsException {
        needNode(v);
        needNode(w);
        return judge(v, w);
    }

    public int checked(int result) throws IllegalArgumentException {
        needRange(result, 0, CHECK_RESULTS - 1);
        return pairsJudged(result);
    }

    public int send(int v, int w) throws IndexOutOfBoundsException {
        needNode(v);
        needNode(w);
        letter.travel(state, v, w, NONE);
        return letter.arrived ? letter.wayLength : NONE;
    }

    public int wayNode(int v, int w, int place) throws IndexOutOfBoundsException, IllegalArgumentException {
        needNode(v);
        needNode(w);
        if (place < 0) {
            throw new IllegalArgumentException("the place is negative");
        }
        letter.travel(state, v, w, NONE);
        return place < letter.visits ? letter.visited[place] : NONE;
    }

    public int arriving() {
        int count = 0;
        for (int v = 0; v < state.nodes; v++) {
            for (int w = 0; w < state.nodes; w++) {
                if (v != w && arrives(v, w, NONE)) {
                    count++;
                }
            }
        }
        return count;
    }

    public double stretch() {
        double greatest = 0.0;
        for (int v = 0; v < state.nodes; v++) {
            for (int w = 0; w < state.nodes; w++) {
                int shortest = ways.between(v, w);
                // 0 is the distance of the same node alone
                if (shortest > 0 && arrives(v, w, NONE)) {
                    double quotient = (double) letter.wayLength / (double) shortest;
                    greatest = quotient > greatest ? quotient : greatest;
                }
            }
        }
        return greatest;
    }

    public int load(int link) throws IndexOutOfBoundsException {
        needLink(link);
        int count = 0;
        for (int v = 0; v < state.nodes; v++) {
            for (int w = 0; w < state.nodes; w++) {
                if (v != w && arrives(v, w, NONE) && letter.wentOver(link)) {
                    count++;
                }
            }
        }
        return count;
    }

    public int lostWithout(int link) throws IndexOutOfBoundsException {
        needLink(link);
        int count = 0;
        for (int v = 0; v < state.nodes; v++) {
            for (int w = 0; w < state.nodes; w++) {
                if (v != w && arrives(v, w, NONE) && !arrives(v, w, link)) {
                    count++;
                }
            }
        }
        return count;
    }

    // ---- best labelings

    public int bestCompactness() throws IllegalStateException {
        needSearchable();
        search.ensure(ways, state.nodes, maker);
        return search.leastCompactness;
    }

    public int labelings(int limit) throws IllegalArgumentException, IllegalStateException {
        needRange(limit, 0, MAX_LIMIT);
        needSearchable();
        search.ensure(ways, state.nodes, maker);
        return search.countUpTo(limit);
    }

    // ---- text

    public int append(int value) throws IllegalArgumentException, IllegalStateException {
        needRange(value, 0, MAX_BYTE);
        if (text.length >= MAX_TEXT) {
            throw new IllegalStateException("the text has 100 bytes");
        }
        text.put(value);
        return text.length;
    }

    public int clearText() {
        int lengthBefore = text.length;
        text.length = 0;
        return lengthBefore;
    }

    public int parse() {
        int error = text.readInto(draft);
        if (error != NONE) {
            return -10 - error;
        }
        history.save(state);
        state.copyFrom(draft);
        networkChanged();
        return state.links;
    }

    // ---- state

    public int undo() throws IllegalStateException {
        if (history.count == 0) {
            throw new IllegalStateException("there is no saved state");
        }
        history.restore(state);
        measureNetwork();
        return history.count;
    }

    public long digest() {
        long h = 3083;
        h = 31 * h + text.length;
        h = state.mixInto(h);
        h = 31 * h + networkSize();
        h = 31 * h + compactness();
        for (int result = 0; result < CHECK_RESULTS; result++) {
            h = 31 * h + pairsJudged(result);
        }
        h = 31 * h + arriving();
        return 31 * h + history.count;
    }

    // ---- what several calls share

    private void needRange(int value, int lowest, int highest) {
        if (value < lowest || value > highest) {
            throw new IllegalArgumentException("a value is out of range");
        }
    }

    private void needNode(int v) {
        if (v < 0 || v >= state.nodes) {
            throw new IndexOutOfBoundsException("there is no such node");
        }
    }

    private void needLabel(int label) {
        if (label < 0 || label >= state.nodes) {
            throw new IndexOutOfBoundsException("there is no such label");
        }
    }

    private void needLink(int link) {
        if (link < 0 || link >= state.links) {
            throw new IndexOutOfBoundsException("there is no such link");
        }
    }

    private void needSearchable() {
        if (state.nodes > MAX_SEARCHED) {
            throw new IllegalStateException("there are more than 6 nodes");
        }
    }

    private void networkChanged() {
        state.clearEntries();
        measureNetwork();
    }

    /** What is derived from the links alone is made once a change, for the search asks for it often. */
    private void measureNetwork() {
        ways.measure(state);
        search.forget();
    }

    private boolean isRing() {
        if (state.nodes < 3) {
            return false;
        }
        for (int v = 0; v < state.nodes; v++) {
            if (state.degree(v) != 2) {
                return false;
            }
        }
        return true;
    }

    private int networkSize() {
        int total = 0;
        for (int v = 0; v < state.nodes; v++) {
            ring.read(state, v);
            total += ring.allRuns();
        }
        return total;
    }

    private int judge(int v, int w) {
        if (v == w) {
            return 0;
        }
        if (ways.between(v, w) == FAR) {
            return 4;
        }
        int link = state.entryAt(v, state.labels[w]);
        if (link == NONE) {
            return 3;
        }
        return (ways.good(v, w) >> link & 1) == 1 ? 1 : 2;
    }

    private int pairsJudged(int result) {
        int count = 0;
        for (int v = 0; v < state.nodes; v++) {
            for (int w = 0; w < state.nodes; w++) {
                if (judge(v, w) == result) {
                    count++;
                }
            }
        }
        return count;
    }

    private boolean arrives(int v, int w, int broken) {
        letter.travel(state, v, w, broken);
        return letter.arrived;
    }

    /** All that undo() brings back: the network, the labels and the tables. */
    private static final class State {
        int nodes;
        int links;
        final int[] firstEnds;
        final int[] secondEnds;
        final int[] lengths;
        final int[] labels;
        private final int[] entries;

        State() {
            firstEnds = new int[MAX_LINKS];
            secondEnds = new int[MAX_LINKS];
            lengths = new int[MAX_LINKS];
            labels = new int[MAX_NODES];
            entries = new int[MAX_NODES * MAX_NODES];
            Arrays.fill(entries, NONE);
        }

        void start(int count) {
            nodes = count;
            links = 0;
            resetLabels();
            clearEntries();
        }

        void copyFrom(State other) {
            nodes = other.nodes;
            links = other.links;
            System.arraycopy(other.firstEnds, 0, firstEnds, 0, MAX_LINKS);
            System.arraycopy(other.secondEnds, 0, secondEnds, 0, MAX_LINKS);
            System.arraycopy(other.lengths, 0, lengths, 0, MAX_LINKS);
            System.arraycopy(other.labels, 0, labels, 0, MAX_NODES);
            System.arraycopy(other.entries, 0, entries, 0, MAX_NODES * MAX_NODES);
        }

        void join(int u, int v, int length) {
            firstEnds[links] = u;
            secondEnds[links] = v;
            lengths[links] = length;
            links++;
        }

        void drop(int link) {
            for (int i = link; i + 1 < links; i++) {
                firstEnds[i] = firstEnds[i + 1];
                secondEnds[i] = secondEnds[i + 1];
                lengths[i] = lengths[i + 1];
            }
            links--;
        }

        int linkValue(int link, int what) {
            if (what == 2) {
                return lengths[link];
            }
            return what == 0 ? firstEnds[link] : secondEnds[link];
        }

        boolean touches(int link, int v) {
            return firstEnds[link] == v || secondEnds[link] == v;
        }

        int otherEnd(int link, int v) {
            return firstEnds[link] == v ? secondEnds[link] : firstEnds[link];
        }

        boolean joined(int u, int v) {
            for (int link = 0; link < links; link++) {
                if (touches(link, u) && otherEnd(link, u) == v) {
                    return true;
                }
            }
            return false;
        }

        int degree(int v) {
            int count = 0;
            for (int link = 0; link < links; link++) {
                if (touches(link, v)) {
                    count++;
                }
            }
            return count;
        }

        int lowestLinkBut(int excepted, int v) {
            for (int link = 0; link < links; link++) {
                if (link != excepted && touches(link, v)) {
                    return link;
                }
            }
            return NONE;
        }

        void resetLabels() {
            for (int v = 0; v < nodes; v++) {
                labels[v] = v;
            }
        }

        void exchangeLabels(int u, int v) {
            int kept = labels[u];
            labels[u] = labels[v];
            labels[v] = kept;
        }

        int holder(int label) {
            for (int v = 0; v < nodes; v++) {
                if (labels[v] == label) {
                    return v;
                }
            }
            return NONE;
        }

        void clearEntries() {
            Arrays.fill(entries, NONE);
        }

        int entryAt(int v, int label) {
            return entries[v * MAX_NODES + label];
        }

        void storeTable(int v, Ring table) {
            for (int place = 0; place < table.places; place++) {
                entries[v * MAX_NODES + Ring.labelAt(place, labels[v])] = table.entries[place];
            }
        }

        int setInterval(int v, int link, int from, int to) {
            int reach = to >= from ? to - from : to - from + nodes;
            int changed = 0;
            for (int i = 0; i <= reach; i++) {
                int label = from + i < nodes ? from + i : from + i - nodes;
                int at = v * MAX_NODES + label;
                if (label != labels[v] && entries[at] != link) {
                    entries[at] = link;
                    changed++;
                }
            }
            return changed;
        }

        long mixInto(long hash) {
            long h = 31 * hash + nodes;
            h = 31 * h + links;
            for (int link = 0; link < links; link++) {
                for (int what = 0; what <= 2; what++) {
                    h = 31 * h + linkValue(link, what);
                }
            }
            for (int v = 0; v < nodes; v++) {
                h = 31 * h + labels[v];
            }
            for (int v = 0; v < nodes; v++) {
                for (int label = 0; label < nodes; label++) {
                    h = 31 * h + entryAt(v, label);
                }
            }
            return h;
        }
    }

    /** The saved states, the oldest first. */
    private static final class History {
        int count;
        private final State[] saved;

        History() {
            saved = new State[MAX_SAVED];
            for (int i = 0; i < MAX_SAVED; i++) {
                saved[i] = new State();
            }
        }

        void save(State state) {
            if (count == MAX_SAVED) {
                dropOldest();
            }
            saved[count].copyFrom(state);
            count++;
        }

        void restore(State state) {
            count--;
            state.copyFrom(saved[count]);
        }

        /** The dropped state goes behind the others, so that its rows are used again. */
        private void dropOldest() {
            State oldest = saved[0];
            for (int i = 0; i + 1 < MAX_SAVED; i++) {
                saved[i] = saved[i + 1];
            }
            saved[MAX_SAVED - 1] = oldest;
            count--;
        }
    }

    /** The distances and good links of a network. */
    private static final class Ways {
        private final int[] distances;
        private final int[] goodSets;
        private final int[] choices;
        private final int[] choiceCounts;

        Ways() {
            distances = new int[MAX_NODES * MAX_NODES];
            goodSets = new int[MAX_NODES * MAX_NODES];
            choices = new int[MAX_NODES * MAX_NODES * MAX_DEGREE];
            choiceCounts = new int[MAX_NODES * MAX_NODES];
        }

        void measure(State state) {
            measureDistances(state);
            for (int v = 0; v < state.nodes; v++) {
                for (int w = 0; w < state.nodes; w++) {
                    findGoodLinks(state, v, w);
                }
            }
        }

        int between(int u, int v) {
            return distances[u * MAX_NODES + v];
        }

        int good(int v, int w) {
            return goodSets[v * MAX_NODES + w];
        }

        /** Copies what a best table of v may have for w (its good links, or NONE alone), and answers how many. */
        int copyChoices(int v, int w, int[] target, int from) {
            int pair = v * MAX_NODES + w;
            for (int i = 0; i < choiceCounts[pair]; i++) {
                target[from + i] = choices[pair * MAX_DEGREE + i];
            }
            return choiceCounts[pair];
        }

        boolean connected(int nodes) {
            for (int v = 0; v < nodes; v++) {
                if (distances[v] == FAR) {
                    return false;
                }
            }
            return true;
        }

        private void measureDistances(State state) {
            Arrays.fill(distances, FAR);
            for (int v = 0; v < state.nodes; v++) {
                distances[v * MAX_NODES + v] = 0;
            }
            for (int link = 0; link < state.links; link++) {
                int u = state.firstEnds[link];
                int v = state.secondEnds[link];
                distances[u * MAX_NODES + v] = state.lengths[link];
                distances[v * MAX_NODES + u] = state.lengths[link];
            }
            for (int middle = 0; middle < state.nodes; middle++) {
                shortenOver(middle, state.nodes);
            }
        }

        private void shortenOver(int middle, int nodes) {
            for (int u = 0; u < nodes; u++) {
                for (int v = 0; v < nodes; v++) {
                    int over = between(u, middle) + between(middle, v);
                    if (over < between(u, v)) {
                        distances[u * MAX_NODES + v] = over;
                    }
                }
            }
        }

        private void findGoodLinks(State state, int v, int w) {
            int pair = v * MAX_NODES + w;
            int set = 0;
            int count = 0;
            for (int link = 0; link < state.links && count < MAX_DEGREE; link++) {
                if (begins(state, link, v, w)) {
                    set |= 1 << link;
                    choices[pair * MAX_DEGREE + count] = link;
                    count++;
                }
            }
            if (count == 0) {
                choices[pair * MAX_DEGREE] = NONE;
                count = 1;
            }
            goodSets[pair] = set;
            choiceCounts[pair] = count;
        }

        private boolean begins(State state, int link, int v, int w) {
            return state.touches(link, v)
                    && state.lengths[link] + between(state.otherEnd(link, v), w) == between(v, w);
        }
    }

    /** A node's table without the own label: the places of the others follow one another in a circle. */
    private static final class Ring {
        int places;
        final int[] entries;

        Ring() {
            entries = new int[MAX_NODES];
        }

        static int labelAt(int place, int ownLabel) {
            return place < ownLabel ? place : place + 1;
        }

        void read(State state, int v) {
            places = state.nodes - 1;
            for (int place = 0; place < places; place++) {
                entries[place] = state.entryAt(v, labelAt(place, state.labels[v]));
            }
        }

        int runsOf(int link) {
            int count = 0;
            for (int place = 0; place < places; place++) {
                if (entries[place] == link && runBeginsAt(place)) {
                    count++;
                }
            }
            return count;
        }

        int allRuns() {
            int count = 0;
            for (int place = 0; place < places; place++) {
                if (runBeginsAt(place)) {
                    count++;
                }
            }
            return count;
        }

        int mostRuns() {
            int most = 0;
            for (int place = 0; place < places; place++) {
                most = Math.max(most, runsOf(entries[place]));
            }
            return most;
        }

        int beginningOf(int link, int run) {
            int index = 0;
            for (int place = 0; place < places; place++) {
                if (entries[place] == link && runBeginsAt(place)) {
                    if (index == run) {
                        return place;
                    }
                    index++;
                }
            }
            return NONE;
        }

        int endOfRunAt(int first) {
            int last = first;
            for (int i = 1; i < places; i++) {
                int next = last + 1 < places ? last + 1 : 0;
                if (entries[next] != entries[first]) {
                    return last;
                }
                last = next;
            }
            return last;
        }

        private boolean runBeginsAt(int place) {
            if (entries[place] == NONE) {
                return false;
            }
            int before = entries[place == 0 ? places - 1 : place - 1];
            return before != entries[place] || place == 0 && allEqual();
        }

        private boolean allEqual() {
            for (int place = 1; place < places; place++) {
                if (entries[place] != entries[0]) {
                    return false;
                }
            }
            return true;
        }
    }

    /**
     * Finds best tables. The price of a table is the number of places whose entry is a link and not that of
     * the place before. It is the size, but for a table with one link all around: that one has price 0 and size 1,
     * and where it is possible, no other table has a price below 2; so the cheapest tables are the smallest.
     */
    private static final class TableMaker {
        private int nodes;
        private final int[] seats;
        private final int[] counts;
        private final int[] choices;
        private final int[] prices;

        TableMaker() {
            seats = new int[MAX_NODES];
            counts = new int[MAX_NODES];
            choices = new int[MAX_NODES * MAX_DEGREE];
            prices = new int[MAX_NODES * MAX_DEGREE];
        }

        /** Comes before fill(): what all nodes share of a labeling. */
        void seat(int[] labels, int count) {
            nodes = count;
            for (int v = 0; v < count; v++) {
                seats[labels[v]] = v;
            }
        }

        void fill(Ways ways, int v, int ownLabel, Ring table) {
            table.places = nodes - 1;
            if (table.places <= 0) {
                return;
            }
            for (int place = 0; place < table.places; place++) {
                int target = seats[Ring.labelAt(place, ownLabel)];
                counts[place] = ways.copyChoices(v, target, choices, place * MAX_DEGREE);
            }
            int least = FAR;
            for (int i = 0; i < counts[0]; i++) {
                priceBeginningWith(choices[i], table.places);
                if (prices[i] < least) {
                    least = prices[i];
                    follow(i, table);
                }
            }
        }

        /** The price of a choice is what the places behind it cost, and the step from the last to the first one. */
        private void priceBeginningWith(int first, int places) {
            for (int place = places - 1; place >= 0; place--) {
                for (int i = 0; i < counts[place]; i++) {
                    int slot = place * MAX_DEGREE + i;
                    prices[slot] = place == places - 1
                            ? step(choices[slot], first)
                            : cheapestAt(place + 1, choices[slot]);
                }
            }
        }

        private int cheapestAt(int place, int before) {
            int least = FAR;
            for (int i = 0; i < counts[place]; i++) {
                int slot = place * MAX_DEGREE + i;
                least = Math.min(least, step(before, choices[slot]) + prices[slot]);
            }
            return least;
        }

        /** The choices ascend, so the first one that keeps the price gives the lexicographically first table. */
        private void follow(int firstChoice, Ring table) {
            table.entries[0] = choices[firstChoice];
            int due = prices[firstChoice];
            for (int place = 1; place < table.places; place++) {
                int before = table.entries[place - 1];
                for (int i = 0; i < counts[place]; i++) {
                    int slot = place * MAX_DEGREE + i;
                    if (step(before, choices[slot]) + prices[slot] == due) {
                        table.entries[place] = choices[slot];
                        due = prices[slot];
                        break;
                    }
                }
            }
        }

        private static int step(int before, int entry) {
            return entry != NONE && entry != before ? 1 : 0;
        }
    }

    /** Goes through all labelings of a small network, once until the network changes. */
    private static final class Search {
        int leastCompactness;
        private int leastSize;
        private boolean known;
        private int trialCompactness;
        private int trialSize;
        private final int[] trial;
        private final int[] best;
        private final int[] tally;
        private final Ring table;

        Search() {
            trial = new int[MAX_SEARCHED];
            best = new int[MAX_SEARCHED];
            tally = new int[MAX_LIMIT + 1];
            table = new Ring();
        }

        void forget() {
            known = false;
        }

        void ensure(Ways ways, int nodes, TableMaker maker) {
            if (known) {
                return;
            }
            known = true;
            leastCompactness = FAR;
            Arrays.fill(tally, 0);
            for (int v = 0; v < nodes; v++) {
                trial[v] = v;
            }
            boolean more = true;
            for (int i = 0; i < MAX_LABELINGS && more; i++) {
                evaluate(ways, nodes, maker);
                note(nodes);
                more = nextTrial(nodes);
            }
        }

        int countUpTo(int limit) {
            int count = 0;
            for (int compact = 0; compact <= limit; compact++) {
                count += tally[compact];
            }
            return count;
        }

        void copyBest(State state) {
            System.arraycopy(best, 0, state.labels, 0, state.nodes);
        }

        private void evaluate(Ways ways, int nodes, TableMaker maker) {
            maker.seat(trial, nodes);
            trialCompactness = 0;
            trialSize = 0;
            for (int v = 0; v < nodes; v++) {
                maker.fill(ways, v, trial[v], table);
                trialCompactness = Math.max(trialCompactness, table.mostRuns());
                trialSize += table.allRuns();
            }
        }

        /** The trials come in lexicographic order, so only a better one takes the place of the best. */
        private void note(int nodes) {
            if (trialCompactness <= MAX_LIMIT) {
                tally[trialCompactness]++;
            }
            boolean better = trialCompactness < leastCompactness
                    || trialCompactness == leastCompactness && trialSize < leastSize;
            if (better) {
                leastCompactness = trialCompactness;
                leastSize = trialSize;
                System.arraycopy(trial, 0, best, 0, nodes);
            }
        }

        private boolean nextTrial(int nodes) {
            int left = nodes - 2;
            for (int i = 0; i < nodes && left >= 0 && trial[left] > trial[left + 1]; i++) {
                left--;
            }
            if (left < 0) {
                return false;
            }
            int right = left + 1;
            for (int i = left + 2; i < nodes; i++) {
                if (trial[i] > trial[left]) {
                    right = i;
                }
            }
            exchange(left, right);
            for (int low = left + 1, high = nodes - 1; low < high; low++, high--) {
                exchange(low, high);
            }
            return true;
        }

        private void exchange(int i, int j) {
            int kept = trial[i];
            trial[i] = trial[j];
            trial[j] = kept;
        }
    }

    /** A letter and the way that it takes. */
    private static final class Letter {
        boolean arrived;
        int wayLength;
        int visits;
        final int[] visited;
        private final int[] taken;

        Letter() {
            visited = new int[MAX_NODES + 1];
            taken = new int[MAX_NODES];
        }

        /** Where the entry is the broken link (NONE: all are whole), the letter goes over another one. */
        void travel(State state, int from, int to, int broken) {
            int at = from;
            visited[0] = from;
            visits = 1;
            wayLength = 0;
            for (int i = 0; i < state.nodes && at != to; i++) {
                int link = state.entryAt(at, state.labels[to]);
                if (link != NONE && link == broken) {
                    link = state.lowestLinkBut(broken, at);
                }
                if (link == NONE) {
                    break;
                }
                at = state.otherEnd(link, at);
                taken[i] = link;
                visited[i + 1] = at;
                visits++;
                wayLength += state.lengths[link];
            }
            arrived = at == to;
        }

        boolean wentOver(int link) {
            for (int i = 0; i < visits - 1; i++) {
                if (taken[i] == link) {
                    return true;
                }
            }
            return false;
        }
    }

    /** The labelings that need no search. */
    private static final class Labeler {
        private static final long MULTIPLIER = 1103515245L;
        private static final long INCREMENT = 12345L;
        private static final long MODULUS = 2147483648L;
        private static final long DIVISOR = 65536L;

        private final int[] parents;

        Labeler() {
            parents = new int[MAX_NODES];
        }

        void depthFirst(State state, int root) {
            for (int v = 0; v < state.nodes; v++) {
                state.labels[v] = NONE;
            }
            state.labels[root] = 0;
            parents[root] = NONE;
            int given = 1;
            int at = root;
            // each node is entered once and left once
            for (int i = 0; i < 2 * MAX_NODES && at != NONE; i++) {
                int next = firstUnlabeled(state, at);
                if (next == NONE) {
                    at = parents[at];
                } else {
                    parents[next] = at;
                    state.labels[next] = given;
                    given++;
                    at = next;
                }
            }
            labelTheRest(state, given);
        }

        void byRank(State state, Ways ways, int root) {
            for (int v = 0; v < state.nodes; v++) {
                int rank = 0;
                for (int u = 0; u < state.nodes; u++) {
                    int difference = ways.between(root, u) - ways.between(root, v);
                    if (difference < 0 || difference == 0 && u < v) {
                        rank++;
                    }
                }
                state.labels[v] = rank;
            }
        }

        void atRandom(State state, int seed) {
            state.resetLabels();
            long s = seed;
            for (int i = state.nodes - 1; i >= 1; i--) {
                s = (MULTIPLIER * s + INCREMENT) % MODULUS;
                int j = (int) (s / DIVISOR % (i + 1));
                state.exchangeLabels(i, j);
            }
        }

        private static int firstUnlabeled(State state, int v) {
            for (int link = 0; link < state.links; link++) {
                if (state.touches(link, v) && state.labels[state.otherEnd(link, v)] == NONE) {
                    return state.otherEnd(link, v);
                }
            }
            return NONE;
        }

        private static void labelTheRest(State state, int firstLabel) {
            int given = firstLabel;
            for (int v = 0; v < state.nodes; v++) {
                if (state.labels[v] == NONE) {
                    state.labels[v] = given;
                    given++;
                }
            }
        }
    }

    /** The network text and its reader. */
    private static final class NetworkText {
        int length;
        private final int[] bytes;

        NetworkText() {
            bytes = new int[MAX_TEXT];
        }

        void put(int value) {
            bytes[length] = value;
            length++;
        }

        /** Answers the syntax error position, or NONE if the target has become the network of the text. */
        int readInto(State target) {
            int nodes = digitAt(0);
            if (nodes == NONE) {
                return 0;
            }
            target.start(nodes);
            for (int at = 1; at < length; at += 4) {
                int error = readLink(target, at);
                if (error != NONE) {
                    return error;
                }
            }
            return NONE;
        }

        private int readLink(State target, int at) {
            if (bytes[at] != ';') {
                return at;
            }
            int u = digitAt(at + 1);
            if (u == NONE || u >= target.nodes || target.links >= MAX_LINKS) {
                return at + 1;
            }
            int v = digitAt(at + 2);
            if (v == NONE || v >= target.nodes || v == u || target.joined(u, v)) {
                return at + 2;
            }
            int linkLength = digitAt(at + 3);
            if (linkLength < 1) {
                return at + 3;
            }
            target.join(u, v, linkLength);
            return NONE;
        }

        /** NONE where there is no digit, behind the end too: both make the same error position. */
        private int digitAt(int at) {
            if (at >= length || bytes[at] < '0' || bytes[at] > '9') {
                return NONE;
            }
            return bytes[at] - '0';
        }
    }
}
