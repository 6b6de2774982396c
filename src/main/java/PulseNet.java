import java.util.Arrays;

/** Programs that think all nodes go in step, carried out in a net by letters that come in any order. */
public final class PulseNet {
    public static final int BAD = -1, NONE = -2, NOT_YET = -3;

    private static final int MOST_NODES = 12, MOST_MARK = 99, MOST_LENGTH = 9;
    private static final int MOST_ROUNDS = 20, LEAST_K = 2, MOST_K = 8, MOST_FLOW = 3000;
    private static final int WAVES = 0, GREATEST = 1, CHOICE = 2, LENGTHS = 3;
    private static final int ALL = 0, TREE = 1, CLUSTERS = 2;
    private static final int NOTE = 0, ACK = 1, SAFE = 2, READY = 3, GO = 4, FIRM = 5, DONE = 6;

    private final Course course = new Course();
    private boolean started;

    public PulseNet() {
        course.net.clear(1);
        started = false;
    }

    public int begin(int n) {
        if (n < 1 || n > MOST_NODES) {
            return BAD;
        }
        course.net.clear(n);
        started = false;
        return 0;
    }

    public int link(int a, int b, int length) {
        Net net = course.net;
        if (!net.hasNode(a) || !net.hasNode(b) || a == b || length < 1 || length > MOST_LENGTH) {
            return BAD;
        }
        net.join(a, b, length);
        started = false;
        return net.links;
    }

    public int mark(int node, int v) {
        Net net = course.net;
        if (!net.hasNode(node) || v < 0 || v > MOST_MARK) {
            return BAD;
        }
        int before = net.marks[node];
        net.marks[node] = v;
        started = false;
        return before;
    }

    public int start(int program, int way, int source, int k, int rounds) {
        if (program < WAVES || program > LENGTHS || way < ALL || way > CLUSTERS) {
            return BAD;
        }
        if (!course.net.hasNode(source) || rounds < 1 || rounds > MOST_ROUNDS) {
            return BAD;
        }
        if (way == CLUSTERS && (k < LEAST_K || k > MOST_K)) {
            return BAD;
        }
        if (!course.net.isConnected()) {
            return BAD;
        }
        course.frame.setUp(course.net, way, source, k);
        course.open(program, way, source, rounds);
        started = true;
        return course.pool.size;
    }

    public int come(int i) {
        return hasLetter(i) ? course.bring(i) : BAD;
    }

    public int flow(int many, int seed) {
        if (many < 0 || many > MOST_FLOW || seed < 0) {
            return BAD;
        }
        long now = seed;
        int brought = 0;
        while (brought < many && started && course.pool.size > 0) {
            course.bring((int) (now % course.pool.size));
            now = (69069L * now + 1L) & 0x7fffffffL;
            brought++;
        }
        return brought;
    }

    public int told(int node, int what) {
        if (!course.net.hasNode(node) || what < 0 || what > 7) {
            return BAD;
        }
        if (what == 7) {
            return Integer.bitCount(course.net.near[node]);
        }
        if (!started) {
            return BAD;
        }
        switch (what) {
            case 0: return course.round[node];
            case 1: return course.play.value[node];
            case 2: return course.play.parent[node];
            case 3: return course.unanswered[node];
            case 4: return course.isSafe(node) ? 1 : 0;
            case 5: return course.frame.upper[node];
            default: return course.frame.leader[node];
        }
    }

    public int past(int node, int r) {
        if (!hasRound(node, r)) {
            return BAD;
        }
        return r > course.round[node] ? NOT_YET : course.reached[at(r, node)];
    }

    public int inStep(int node, int r) {
        return hasRound(node, r) ? course.wanted[at(r, node)] : BAD;
    }

    public int differ() {
        return started ? course.countWrong() : BAD;
    }

    public int letter(int i, int what) {
        if (!hasLetter(i)) {
            return BAD;
        }
        switch (what) {
            case 0: return course.pool.kinds[i];
            case 1: return course.pool.froms[i];
            case 2: return course.pool.tos[i];
            case 3: return course.pool.rounds[i];
            case 4: return course.pool.numbers[i];
            default: return BAD;
        }
    }

    public int count(int what) {
        if (what == 0) {
            return course.net.nodes;
        }
        if (what == 1) {
            return course.net.links;
        }
        if (!started) {
            return BAD;
        }
        switch (what) {
            case 2: return course.pool.size;
            case 3: return course.notesSent;
            case 4: return course.othersSent;
            case 5: return course.leastRound();
            case 6: return course.greatestRound();
            case 7: return course.isOver() ? 1 : 0;
            case 8: return course.frame.clusters;
            case 9: return course.frame.chosen;
            default: return BAD;
        }
    }

    private boolean hasLetter(int i) {
        return started && i >= 0 && i < course.pool.size;
    }

    private boolean hasRound(int node, int r) {
        return started && course.net.hasNode(node) && r >= 0 && r <= course.rounds;
    }

    /** Where a table with a row of nodes for each round (or for each node) has an entry. */
    private static int at(int row, int node) {
        return row * MOST_NODES + node;
    }

    private static boolean isIn(int set, int node) {
        return (set >> node & 1) != 0;
    }

    /** The nodes, their links and their marks; sets of nodes are bits, bit i for node i. */
    private static final class Net {
        int nodes;
        int links;
        final int[] marks = new int[MOST_NODES];
        final int[] near = new int[MOST_NODES];
        final int[] lengths = new int[MOST_NODES * MOST_NODES];

        void clear(int n) {
            nodes = n;
            links = 0;
            Arrays.fill(marks, 0);
            Arrays.fill(near, 0);
            Arrays.fill(lengths, 0);
        }

        boolean hasNode(int node) {
            return node >= 0 && node < nodes;
        }

        void join(int a, int b, int length) {
            if (!isIn(near[a], b)) {
                links++;
            }
            near[a] |= 1 << b;
            near[b] |= 1 << a;
            lengths[at(a, b)] = length;
            lengths[at(b, a)] = length;
        }

        int everyNode() {
            return (1 << nodes) - 1;
        }

        /** All neighbours of the nodes of a set, be they in the set or not. */
        int around(int set) {
            int found = 0;
            for (int node = 0; node < nodes; node++) {
                if (isIn(set, node)) {
                    found |= near[node];
                }
            }
            return found;
        }

        boolean isConnected() {
            int reached = 1;
            for (int turn = 1; turn < nodes; turn++) {
                reached |= around(reached);
            }
            return reached == everyNode();
        }
    }

    /** Who is whose upper and leader, and between whom a SAFE goes, for each way to keep step. */
    private static final class Frame {
        int clusters;
        int chosen;
        final int[] leader = new int[MOST_NODES];
        final int[] upper = new int[MOST_NODES];
        final int[] level = new int[MOST_NODES];
        /** The upper of a node as a set, with none in it for a root. */
        final int[] above = new int[MOST_NODES];
        /** The nodes of which a node is the upper. */
        final int[] below = new int[MOST_NODES];
        /** The nodes with which a node changes a SAFE in each round. */
        final int[] partners = new int[MOST_NODES];
        /** Of a leader: the leaders to whose clusters a link is chosen. */
        final int[] joined = new int[MOST_NODES];

        void setUp(Net net, int way, int source, int k) {
            clear();
            if (way == ALL) {
                standAlone(net);
            } else if (way == TREE) {
                growTree(net, net.everyNode(), source);
            } else {
                makeClusters(net, k);
                chooseLinks(net);
            }
        }

        private void clear() {
            clusters = 1;
            chosen = 0;
            Arrays.fill(leader, NONE);
            Arrays.fill(upper, NONE);
            Arrays.fill(level, NONE);
            Arrays.fill(above, 0);
            Arrays.fill(below, 0);
            Arrays.fill(partners, 0);
            Arrays.fill(joined, 0);
        }

        private void standAlone(Net net) {
            for (int node = 0; node < net.nodes; node++) {
                leader[node] = node;
                partners[node] = net.near[node];
            }
        }

        private void growTree(Net net, int set, int root) {
            level[root] = 0;
            leader[root] = root;
            for (int k = 0; k < net.nodes; k++) {
                for (int node = 0; node < net.nodes; node++) {
                    if (isIn(set, node) && level[node] == NONE) {
                        hang(net, node, set, k);
                    }
                }
            }
            for (int node = 0; node < net.nodes; node++) {
                if (isIn(set, node)) {
                    leader[node] = root;
                }
            }
        }

        /** Puts a node under its least neighbour of the set on level k, if it has one there. */
        private void hang(Net net, int node, int set, int k) {
            int candidates = net.near[node] & set;
            for (int other = 0; other < net.nodes; other++) {
                if (isIn(candidates, other) && level[other] == k) {
                    level[node] = k + 1;
                    upper[node] = other;
                    above[node] = 1 << other;
                    below[other] |= 1 << node;
                    return;
                }
            }
        }

        private void makeClusters(Net net, int k) {
            int free = net.everyNode();
            clusters = 0;
            for (int node = 0; node < net.nodes; node++) {
                if (isIn(free, node)) {
                    int cluster = clusterOf(net, node, free, k);
                    free &= ~cluster;
                    clusters++;
                    growTree(net, cluster, node);
                }
            }
        }

        private static int clusterOf(Net net, int first, int free, int k) {
            int cluster = 1 << first;
            for (int turn = 0; turn < net.nodes; turn++) {
                int fresh = net.around(cluster) & free & ~cluster;
                if (Integer.bitCount(fresh) < (k - 1) * Integer.bitCount(cluster)) {
                    return cluster;
                }
                cluster |= fresh;
            }
            return cluster;
        }

        /** Links are walked by lesser, then by greater end, so the first between two clusters is the chosen one. */
        private void chooseLinks(Net net) {
            for (int a = 0; a < net.nodes; a++) {
                for (int b = a + 1; b < net.nodes; b++) {
                    boolean apart = leader[a] != leader[b] && !isIn(joined[leader[a]], leader[b]);
                    if (apart && isIn(net.near[a], b)) {
                        choose(a, b);
                    }
                }
            }
        }

        private void choose(int a, int b) {
            joined[leader[a]] |= 1 << leader[b];
            joined[leader[b]] |= 1 << leader[a];
            partners[a] |= 1 << b;
            partners[b] |= 1 << a;
            chosen++;
        }
    }

    /** What the nodes know in a program, and the notes that they have not yet taken. */
    private static final class Play {
        private static final int OPEN = 0, IN = 1, OUT = 2;
        /** The note by which a node that is in tells so; NONE stands for no note, which no program writes. */
        private static final int I_AM_IN = -1;
        private static final int NOTE_ROW = MOST_NODES * MOST_NODES;

        int program;
        int source;
        final int[] value = new int[MOST_NODES];
        final int[] parent = new int[MOST_NODES];
        /** Two rows, for notes of even and of odd rounds: neighbours are never more than a round apart. */
        final int[] notes = new int[2 * NOTE_ROW];

        void reset(Net net, int newProgram, int newSource) {
            program = newProgram;
            source = newSource;
            Arrays.fill(parent, NONE);
            Arrays.fill(notes, NONE);
            for (int node = 0; node < MOST_NODES; node++) {
                value[node] = firstValue(net, node);
            }
        }

        private int firstValue(Net net, int node) {
            switch (program) {
                case GREATEST: return net.marks[node];
                case CHOICE: return OPEN;
                default: return node == source ? 0 : NONE;
            }
        }

        private static int noteRow(int r, int to) {
            return (r & 1) * NOTE_ROW + to * MOST_NODES;
        }

        void keepNote(int from, int to, int r, int number) {
            notes[noteRow(r, to) + from] = number;
        }

        /** Does round r of a node: the number that it writes to all neighbours, or NONE. */
        int doRound(Net net, int node, int r) {
            int row = noteRow(r - 1, node);
            int written = r == 1 ? firstNote(net, node) : laterNote(net, node, r, row);
            for (int from = 0; from < MOST_NODES; from++) {
                notes[row + from] = NONE;
            }
            return written;
        }

        private int firstNote(Net net, int node) {
            switch (program) {
                case WAVES: return node == source ? 1 : NONE;
                case LENGTHS: return node == source ? 0 : NONE;
                default: return net.marks[node];
            }
        }

        private int laterNote(Net net, int node, int r, int row) {
            switch (program) {
                case WAVES: return takeWave(node, row);
                case GREATEST: return takeGreatest(node, row);
                case CHOICE: return r % 2 == 0 ? tryIn(net, node, row) : tryOut(net, node, row);
                default: return takeLengths(net, node, row);
            }
        }

        private int takeWave(int node, int row) {
            for (int from = 0; from < MOST_NODES && value[node] == NONE; from++) {
                if (notes[row + from] != NONE) {
                    value[node] = notes[row + from];
                    parent[node] = from;
                    return value[node] + 1;
                }
            }
            return NONE;
        }

        private int takeGreatest(int node, int row) {
            int before = value[node];
            for (int from = 0; from < MOST_NODES; from++) {
                if (notes[row + from] != NONE && notes[row + from] > value[node]) {
                    value[node] = notes[row + from];
                    parent[node] = from;
                }
            }
            return value[node] == before ? NONE : value[node];
        }

        private int tryIn(Net net, int node, int row) {
            if (value[node] != OPEN) {
                return NONE;
            }
            for (int from = 0; from < MOST_NODES; from++) {
                int number = notes[row + from];
                boolean same = number == net.marks[node] && from > node;
                if (number != NONE && (number > net.marks[node] || same)) {
                    return NONE;
                }
            }
            value[node] = IN;
            return I_AM_IN;
        }

        private int tryOut(Net net, int node, int row) {
            if (value[node] != OPEN) {
                return NONE;
            }
            for (int from = 0; from < MOST_NODES; from++) {
                if (notes[row + from] == I_AM_IN) {
                    value[node] = OUT;
                    parent[node] = from;
                    return NONE;
                }
            }
            return net.marks[node];
        }

        private int takeLengths(Net net, int node, int row) {
            int before = value[node];
            for (int from = 0; from < MOST_NODES; from++) {
                int number = notes[row + from] + net.lengths[at(node, from)];
                boolean better = value[node] == NONE || number < value[node];
                if (notes[row + from] != NONE && better) {
                    value[node] = number;
                    parent[node] = from;
                }
            }
            return value[node] == before ? NONE : value[node];
        }
    }

    /** The letters that wait, in the order in which they were sent. */
    private static final class Pool {
        /** For each end of a link there wait at most a NOTE or its ACK, two SAFEs and one letter of a tree. */
        private static final int ROOM = 4 * MOST_NODES * (MOST_NODES - 1);

        int size;
        final int[] kinds = new int[ROOM];
        final int[] froms = new int[ROOM];
        final int[] tos = new int[ROOM];
        final int[] rounds = new int[ROOM];
        final int[] numbers = new int[ROOM];

        void add(int kind, int from, int to, int r, int number) {
            if (size >= ROOM) {
                return;
            }
            kinds[size] = kind;
            froms[size] = from;
            tos[size] = to;
            rounds[size] = r;
            numbers[size] = number;
            size++;
        }

        void remove(int i) {
            if (i < 0 || i >= size) {
                return;
            }
            size--;
            closeGap(kinds, i);
            closeGap(froms, i);
            closeGap(tos, i);
            closeGap(rounds, i);
            closeGap(numbers, i);
        }

        private void closeGap(int[] row, int i) {
            System.arraycopy(row, i + 1, row, i, size - i);
        }
    }

    /** A program that was started: how far each node is, and what it waits for. */
    private static final class Course {
        /** How far a node is in keeping step within its round. */
        private static final int AT_WORK = 0, REPORTED = 1, TOLD_FIRM = 2, FINISHED = 3;

        final Net net = new Net();
        final Frame frame = new Frame();
        final Play play = new Play();
        final Pool pool = new Pool();
        int way;
        int rounds;
        int notesSent;
        int othersSent;
        final int[] round = new int[MOST_NODES];
        final int[] stage = new int[MOST_NODES];
        final int[] unanswered = new int[MOST_NODES];
        final int[] readies = new int[MOST_NODES];
        final int[] dones = new int[MOST_NODES];
        /** Two rows, for even and for odd rounds: a SAFE may come a round before the node is there. */
        final int[] safes = new int[2 * MOST_NODES];
        final int[] reached = new int[(MOST_ROUNDS + 1) * MOST_NODES];
        final int[] wanted = new int[(MOST_ROUNDS + 1) * MOST_NODES];

        void open(int program, int newWay, int source, int newRounds) {
            way = newWay;
            rounds = newRounds;
            play.reset(net, program, source);
            goInStep();
            play.reset(net, program, source);
            clear();
            for (int node = 0; node < net.nodes; node++) {
                reached[at(0, node)] = play.value[node];
            }
            for (int node = 0; node < net.nodes; node++) {
                enterNext(node);
                push(node);
            }
        }

        private void clear() {
            pool.size = 0;
            notesSent = 0;
            othersSent = 0;
            Arrays.fill(round, 0);
            Arrays.fill(stage, AT_WORK);
            Arrays.fill(unanswered, 0);
            Arrays.fill(readies, 0);
            Arrays.fill(dones, 0);
            Arrays.fill(safes, 0);
        }

        private void goInStep() {
            for (int node = 0; node < net.nodes; node++) {
                wanted[at(0, node)] = play.value[node];
            }
            for (int r = 1; r <= rounds; r++) {
                for (int node = 0; node < net.nodes; node++) {
                    handOut(node, r, play.doRound(net, node, r));
                    wanted[at(r, node)] = play.value[node];
                }
            }
        }

        private void handOut(int node, int r, int number) {
            for (int to = 0; to < net.nodes && number != NONE; to++) {
                if (isIn(net.near[node], to)) {
                    play.keepNote(node, to, r, number);
                }
            }
        }

        /** Lets letter i come: its kind. */
        int bring(int i) {
            int kind = pool.kinds[i];
            int from = pool.froms[i];
            int to = pool.tos[i];
            int r = pool.rounds[i];
            int number = pool.numbers[i];
            pool.remove(i);
            switch (kind) {
                case NOTE:
                    play.keepNote(from, to, r, number);
                    send(ACK, to, 1 << from, r, 0);
                    break;
                case ACK: unanswered[to]--; break;
                case SAFE: safes[at(r & 1, to)]++; break;
                case READY: readies[to]++; break;
                case GO: enterNext(to); break;
                case FIRM: spreadFirm(to); break;
                default: dones[to]++; break;
            }
            push(to);
            return kind;
        }

        private void send(int kind, int from, int receivers, int r, int number) {
            for (int to = 0; to < net.nodes; to++) {
                if (isIn(receivers, to)) {
                    pool.add(kind, from, to, r, number);
                    notesSent += kind == NOTE ? 1 : 0;
                    othersSent += kind == NOTE ? 0 : 1;
                }
            }
        }

        /** Lets a node do all that it no longer has to wait for; it may go through several rounds at once. */
        private void push(int node) {
            for (int turn = 0; turn < rounds; turn++) {
                boolean mayEnter = way == ALL ? keepWithAll(node)
                    : way == TREE ? keepInTree(node) : keepInClusters(node);
                if (!mayEnter || round[node] >= rounds) {
                    return;
                }
                enterNext(node);
            }
        }

        private void enterNext(int node) {
            int r = round[node] + 1;
            round[node] = r;
            stage[node] = AT_WORK;
            readies[node] = 0;
            dones[node] = 0;
            safes[at(r - 1 & 1, node)] = 0;
            if (r > 1) {
                send(GO, node, frame.below[node], r, 0);
            }
            int number = play.doRound(net, node, r);
            reached[at(r, node)] = play.value[node];
            if (number != NONE) {
                unanswered[node] = Integer.bitCount(net.near[node]);
                send(NOTE, node, net.near[node], r, number);
            }
        }

        boolean isSafe(int node) {
            return unanswered[node] == 0;
        }

        private boolean hasAllSafes(int node) {
            return safes[at(round[node] & 1, node)] == Integer.bitCount(frame.partners[node]);
        }

        private boolean hasAllBelow(int[] heard, int node) {
            return heard[node] == Integer.bitCount(frame.below[node]);
        }

        private boolean isLeader(int node) {
            return frame.leader[node] == node;
        }

        /** This and the next two send what is due from a node, and tell whether it may begin its next round unasked. */
        private boolean keepWithAll(int node) {
            if (!isSafe(node)) {
                return false;
            }
            if (stage[node] == AT_WORK) {
                stage[node] = REPORTED;
                send(SAFE, node, frame.partners[node], round[node], 0);
            }
            return hasAllSafes(node);
        }

        private boolean keepInTree(int node) {
            if (stage[node] != AT_WORK || !isSafe(node) || !hasAllBelow(readies, node)) {
                return false;
            }
            stage[node] = REPORTED;
            send(READY, node, frame.above[node], round[node], 0);
            return isLeader(node);
        }

        private boolean keepInClusters(int node) {
            if (keepInTree(node)) {
                spreadFirm(node);
            }
            if (stage[node] != TOLD_FIRM || !hasAllSafes(node) || !hasAllBelow(dones, node)) {
                return false;
            }
            stage[node] = FINISHED;
            send(DONE, node, frame.above[node], round[node], 0);
            return isLeader(node);
        }

        private void spreadFirm(int node) {
            stage[node] = TOLD_FIRM;
            send(FIRM, node, frame.below[node], round[node], 0);
            send(SAFE, node, frame.partners[node], round[node], 0);
        }

        int leastRound() {
            int least = rounds;
            for (int node = 0; node < net.nodes; node++) {
                least = Math.min(least, round[node]);
            }
            return least;
        }

        int greatestRound() {
            int greatest = 0;
            for (int node = 0; node < net.nodes; node++) {
                greatest = Math.max(greatest, round[node]);
            }
            return greatest;
        }

        boolean isOver() {
            return pool.size == 0 && leastRound() == rounds;
        }

        int countWrong() {
            int wrong = 0;
            for (int node = 0; node < net.nodes; node++) {
                for (int r = 0; r <= round[node]; r++) {
                    wrong += reached[at(r, node)] == wanted[at(r, node)] ? 0 : 1;
                }
            }
            return wrong;
        }
    }
}
