/**
 * Promises 1 to 13, sentence by sentence where one names a boundary: the first and last of each range and their
 * neighbours outside, each ground for BAD and NOT_YET, what a refused call leaves, and what is gone behind others.
 */
public final class BoundsTest extends Check {
  private static final int[] NO_NODE_OF_THREE = {-1, 3, 4, 11, 12, LEAST, MOST};

  public static void main(String[] args) {
    newObject();
    beginRange();
    beginForgets();
    beginRefused();
    linkRange();
    linkCounts();
    linkOtherLength();
    linkForgets();
    linkRefused();
    markRange();
    markForgets();
    markRefused();
    startRanges();
    startSources();
    startConnected();
    startAnew();
    startRefused();
    comeRange();
    comeCloses();
    comeRefused();
    flowSeeds();
    flowGreatestSeed();
    flowMany();
    flowEnds();
    flowRefused();
    toldRange();
    toldAcks();
    toldNeighbours();
    pastRange();
    pastKeeps();
    inStepRange();
    differRange();
    letterRange();
    countRange();
    countOver();
    countClusters();
    lastCalls();
    end();
  }

  // Promise 1

  private static void newObject() {
    about("promise 1: as behind begin(1)");
    PulseNet[] both = {new PulseNet(), net(1)};
    for (PulseNet x : both) {
      counts(x, 0, 1, 0);
      nothingStarted(x);
      due("told(0, 7)", x.told(0, 7), 0);
      due("told(1, 7)", x.told(1, 7), BAD);
      due("link(0, 1, 1)", x.link(0, 1, 1), BAD);
      due("mark(1, 0)", x.mark(1, 0), BAD);
      due("start of source 1", x.start(WAVES, ALL, 1, 2, 1), BAD);
      due("mark(0, 99)", x.mark(0, 99), 0);
      due("start", x.start(WAVES, ALL, 0, 2, 1), 0);
    }
  }

  // Promise 2

  private static void beginRange() {
    about("promise 2: n of 1 .. 12; BAD: no such n");
    PulseNet x = new PulseNet();
    for (int n = 1; n <= 12; n++) {
      due("begin(" + n + ")", x.begin(n), 0);
      counts(x, 0, n, 0);
      due("the last node", x.told(n - 1, 7), 0);
      due("one behind it", x.told(n, 7), BAD);
    }
    for (int n : new int[] {0, 13, -1, -12, 14, 256 + 1, LEAST, LEAST + 1, MOST}) {
      due("begin(" + n + ")", x.begin(n), BAD);
    }
  }

  private static void beginForgets() {
    about("promise 2: n nodes without links, marks 0, nothing started");
    PulseNet x = line(12);
    x.link(0, 11, 9);
    marks(x, 1, 2, 3, 4, 5, 6, 7, 8, 9, 10, 11, 99);
    due("start", x.start(GREATEST, ALL, 0, 2, 5), 24);
    due("begin(12)", x.begin(12), 0);
    counts(x, 0, 12, 0);
    all("without links", x, 7, 0, 0, 0, 0, 0, 0, 0, 0, 0, 0, 0, 0);
    nothingStarted(x);
    due("without links it is not connected", x.start(GREATEST, ALL, 0, 2, 5), BAD);
    for (int node = 0; node < 12; node++) {
      due("mark 0", x.mark(node, 50), 0);
    }
    due("link(0, 11, 9)", x.link(0, 11, 9), 1);
    due("begin(3)", x.begin(3), 0);
    due("begin(12)", x.begin(12), 0);
    due("of a node that was away, the link", x.told(11, 7), 0);
    due("of a node that was away, the mark", x.mark(11, 1), 0);
    due("link(0, 1, 2)", x.link(0, 1, 2), 1);
  }

  private static void beginRefused() {
    about("promise 2: a refused begin leaves all as it was");
    PulseNet x = net(3, 0, 1, 4, 1, 2, 5);
    marks(x, 7, 8, 9);
    due("start", x.start(GREATEST, ALL, 0, 2, 2), 4);
    for (int n : new int[] {0, 13, LEAST, MOST}) {
      due("begin(" + n + ")", x.begin(n), BAD);
      counts(x, 0, 3, 2);
      pool(x, NOTE, 0, 1, 1, 7, NOTE, 1, 0, 1, 8, NOTE, 1, 2, 1, 8, NOTE, 2, 1, 1, 9);
    }
    PulseNet y = line(2);
    y.mark(1, 60);
    due("begin(13)", y.begin(13), BAD);
    nothingStarted(y);
    due("the link", y.told(0, 7), 1);
    due("the mark", y.mark(1, 0), 60);
  }

  // Promise 3

  private static void linkRange() {
    about("promise 3: a length 1 .. 9; BAD: no such two nodes, or length");
    PulseNet x = net(2);
    for (int length = 1; length <= 9; length++) {
      due("length " + length, x.link(0, 1, length), 1);
      x.start(LENGTHS, ALL, 0, 2, 2);
      due("is the value in step", x.inStep(1, 2), length);
    }
    for (int length : new int[] {0, 10, -1, -9, 11, 256 + 1, LEAST, MOST}) {
      due("length " + length, x.link(0, 1, length), BAD);
    }
    PulseNet y = net(12);
    due("link(0, 11, 1)", y.link(0, 11, 1), 1);
    for (int other : new int[] {-1, 12, 13, 32, LEAST, MOST}) {
      due("link(0, " + other + ", 1)", y.link(0, other, 1), BAD);
      due("link(" + other + ", 0, 1)", y.link(other, 0, 1), BAD);
      due("link(" + other + ", " + other + ", 1)", y.link(other, other, 1), BAD);
    }
    for (int node = 0; node < 12; node++) {
      due("a node and itself are no two", y.link(node, node, 1), BAD);
    }
    PulseNet one = net(1);
    due("one node has no other", one.link(0, 0, 1), BAD);
    due("one node has no other", one.link(0, 1, 1), BAD);
    PulseNet three = net(3);
    for (int other : NO_NODE_OF_THREE) {
      due("link(2, " + other + ", 1)", three.link(2, other, 1), BAD);
    }
  }

  private static void linkCounts() {
    about("promise 3: how many links there are");
    PulseNet x = net(12);
    int links = 0;
    for (int a = 11; a >= 0; a--) {
      for (int b = a - 1; b >= 0; b--) {
        due("link(" + a + ", " + b + ", 1)", x.link(a, b, 1), ++links);
      }
    }
    due("all of them", links, 66);
    due("one that there is", x.link(0, 11, 1), 66);
    due("and from the other end", x.link(11, 0, 3), 66);
    due("count(1)", x.count(1), 66);
  }

  private static void linkOtherLength() {
    about("promise 3: or another length of one that there is");
    PulseNet x = net(2, 0, 1, 9);
    due("link(1, 0, 3)", x.link(1, 0, 3), 1);
    due("count(1)", x.count(1), 1);
    x.start(LENGTHS, ALL, 0, 2, 2);
    due("from 0", x.inStep(1, 2), 3);
    x.start(LENGTHS, ALL, 1, 2, 2);
    due("from 1", x.inStep(0, 2), 3);
    due("link(0, 1, 8)", x.link(0, 1, 8), 1);
    all("neighbours", x, 7, 1, 1);
    x.start(LENGTHS, TREE, 0, 2, 2);
    x.flow(3000, 3);
    due("a greater one too", x.past(1, 2), 8);
  }

  private static void linkForgets() {
    about("promise 3: what was started is gone");
    int[][] again = {{0, 2, 1}, {0, 1, 5}, {0, 1, 4}, {1, 0, 4}};
    for (int[] l : again) {
      PulseNet x = net(3, 0, 1, 4, 1, 2, 4);
      due("start", x.start(GREATEST, ALL, 0, 2, 2), 4);
      due("link", x.link(l[0], l[1], l[2]), l[1] == 2 ? 3 : 2);
      nothingStarted(x);
    }
  }

  private static void linkRefused() {
    about("promise 3: a refused link leaves all as it was");
    PulseNet x = net(3, 0, 1, 4, 1, 2, 5);
    due("start", x.start(LENGTHS, ALL, 0, 2, 3), 4);
    int[][] bad = {{0, 1, 0}, {0, 1, 10}, {0, 0, 1}, {0, 3, 1}, {-1, 2, 1}, {0, 2, 10}};
    for (int[] b : bad) {
      due("link", x.link(b[0], b[1], b[2]), BAD);
      counts(x, 1, 2, 4);
      all("neighbours", x, 7, 1, 2, 1);
    }
    due("flow", x.flow(3000, 1) > 0 ? 1 : 0, 1);
    behind(x, 3, 0, 4, 9);
    due("start", x.start(LENGTHS, ALL, 0, 2, 3), 4);
    behind(x, 0, 0, NONE, NONE);
    due("the lengths", x.inStep(2, 3), 9);
  }

  // Promise 4

  private static void markRange() {
    about("promise 4: a mark 0 .. 99, 0 at first: what it was; BAD: no such node or mark");
    PulseNet x = net(3);
    due("0 at first", x.mark(2, 99), 0);
    due("99", x.mark(2, 98), 99);
    due("98", x.mark(2, 1), 98);
    due("1", x.mark(2, 0), 1);
    due("0", x.mark(2, 0), 0);
    for (int v : new int[] {-1, 100, 101, 256, LEAST, MOST}) {
      due("mark(2, " + v + ")", x.mark(2, v), BAD);
    }
    for (int node : NO_NODE_OF_THREE) {
      due("mark(" + node + ", 1)", x.mark(node, 1), BAD);
    }
    due("another node's mark is its own", x.mark(1, 5), 0);
    due("mark(2, 6)", x.mark(2, 6), 0);
    due("mark(1, 7)", x.mark(1, 7), 5);
    PulseNet y = net(12);
    due("mark(11, 99)", y.mark(11, 99), 0);
    due("mark(12, 99)", y.mark(12, 99), BAD);
    due("mark(11, 0)", y.mark(11, 0), 99);
  }

  private static void markForgets() {
    about("promise 4: what was started is gone");
    for (int v : new int[] {3, 4}) {
      PulseNet x = line(3);
      marks(x, 3, 3, 3);
      due("start", x.start(CHOICE, TREE, 0, 2, 2), 4);
      due("mark(1, " + v + ")", x.mark(1, v), 3);
      nothingStarted(x);
      counts(x, 0, 3, 2);
    }
  }

  private static void markRefused() {
    about("promise 4: a refused mark leaves all as it was");
    PulseNet x = line(2);
    marks(x, 41, 42);
    due("start", x.start(GREATEST, ALL, 0, 2, 2), 2);
    int[][] bad = {{0, -1}, {0, 100}, {2, 5}, {-1, 5}, {1, LEAST}, {1, MOST}};
    for (int[] b : bad) {
      due("mark", x.mark(b[0], b[1]), BAD);
      pool(x, NOTE, 0, 1, 1, 41, NOTE, 1, 0, 1, 42);
    }
    due("the mark of 0", x.mark(0, 0), 41);
    due("the mark of 1", x.mark(1, 0), 42);
  }

  // Promise 5

  private static void startRanges() {
    about("promise 5: programs 0 .. 3, ways 0 .. 2, R of 1 .. 20, K 2 .. 8 (of CLUSTERS alone)");
    PulseNet x = line(2);
    for (int program = WAVES; program <= LENGTHS; program++) {
      for (int way = ALL; way <= CLUSTERS; way++) {
        due("program " + program + ", way " + way, x.start(program, way, 0, 2, 20), 2);
        due("R is 20", x.inStep(0, 20) == BAD ? 1 : 0, 0);
        due("R is 20", x.inStep(0, 21), BAD);
        due("flow", x.flow(3000, 5) > 0 ? 1 : 0, 1);
        counts(x, 5, 20, 20, 1);
        due("R of 1", x.start(program, way, 0, 2, 1), 2);
        due("R of 1", x.inStep(0, 2), BAD);
        x.flow(3000, 5);
        counts(x, 5, 1, 1, 1);
        for (int rounds : new int[] {0, 21, -1, LEAST, MOST}) {
          due("R of " + rounds, x.start(program, way, 0, 2, rounds), BAD);
        }
      }
    }
    for (int wrong : new int[] {-1, 4, 5, LEAST, MOST}) {
      due("program " + wrong, x.start(wrong, ALL, 0, 2, 1), BAD);
    }
    for (int wrong : new int[] {-1, 3, 4, LEAST, MOST}) {
      due("way " + wrong, x.start(WAVES, wrong, 0, 2, 1), BAD);
    }
    for (int k = 2; k <= 8; k++) {
      due("K " + k, x.start(WAVES, CLUSTERS, 0, k, 1) == BAD ? 1 : 0, 0);
    }
    for (int k : new int[] {1, 9, 0, -1, LEAST, MOST}) {
      due("K " + k, x.start(WAVES, CLUSTERS, 0, k, 1), BAD);
      due("ALL has no K", x.start(WAVES, ALL, 0, k, 1), 2);
      due("TREE has no K", x.start(WAVES, TREE, 0, k, 1), 2);
    }
  }

  private static void startSources() {
    about("promise 5: the source; BAD: none such");
    PulseNet x = line(3);
    for (int program = WAVES; program <= LENGTHS; program++) {
      for (int way = ALL; way <= CLUSTERS; way++) {
        for (int source = 0; source < 3; source++) {
          due("source " + source, x.start(program, way, source, 2, 1) == BAD ? 1 : 0, 0);
        }
        for (int source : NO_NODE_OF_THREE) {
          due("source " + source, x.start(program, way, source, 2, 1), BAD);
        }
      }
    }
  }

  private static void startConnected() {
    about("promise 5: BAD: the net is not connected");
    PulseNet[] apart = {net(2), net(3, 1, 2, 1), net(3, 0, 1, 1), net(4, 0, 1, 1, 2, 3, 1), net(12),
        net(5, 0, 1, 1, 1, 2, 1, 2, 0, 1, 3, 4, 1)};
    for (PulseNet x : apart) {
      for (int way = ALL; way <= CLUSTERS; way++) {
        due("not connected", x.start(GREATEST, way, 0, 2, 2), BAD);
      }
      nothingStarted(x);
    }
    due("link(1, 2, 1)", apart[3].link(1, 2, 1), 3);
    due("connected now", apart[3].start(GREATEST, TREE, 0, 2, 2), 6);
    PulseNet y = net(12);
    for (int i = 11; i > 0; i--) {
      due("not yet connected", y.start(GREATEST, ALL, 0, 2, 2), BAD);
      y.link(i, i - 1, 1);
    }
    due("a line from the last to the first", y.start(GREATEST, ALL, 0, 2, 2), 22);
    PulseNet z = net(1);
    due("one node is connected", z.start(GREATEST, ALL, 0, 2, 2), 0);
  }

  /** The NOTE 50 that came to node 0 before the second start would be its value in round 2, were it still there. */
  private static void startAnew() {
    about("promise 5: a program starts: how many letters wait");
    PulseNet x = line(3);
    marks(x, 0, 50, 0);
    due("start", x.start(GREATEST, ALL, 0, 2, 3), 4);
    comes(x, 1, NOTE);
    due("start", x.start(WAVES, ALL, 2, 2, 3), 4);
    pool(x, SAFE, 0, 1, 1, 0, SAFE, 1, 0, 1, 0, SAFE, 1, 2, 1, 0, NOTE, 2, 1, 1, 1);
    counts(x, 3, 1, 3, 1, 1);
    all("parent", x, 2, NONE, NONE, NONE);
    due("flow", x.flow(3000, 3) > 0 ? 1 : 0, 1);
    behind(x, 2, NONE, 1, 0);
    behind(x, 3, 2, 1, 0);
    due("start again", x.start(WAVES, ALL, 2, 2, 3), 4);
    all("round", x, 0, 1, 1, 1);
    all("value", x, 1, NONE, NONE, 0);
    due("past(0, 3)", x.past(0, 3), NOT_YET);
    counts(x, 2, 4, 1, 3, 1, 1, 0);
    x.flow(5, 9);
    due("from CLUSTERS", x.start(WAVES, CLUSTERS, 2, 8, 1), 4);
    counts(x, 8, 3, 2);
    due("to TREE", x.start(WAVES, TREE, 2, 8, 1), 2);
    counts(x, 8, 1, 0);
    all("upper", x, 5, 1, 2, NONE);
    due("to ALL", x.start(WAVES, ALL, 2, 8, 1), 4);
    counts(x, 8, 1, 0);
    all("upper", x, 5, NONE, NONE, NONE);
    all("leader", x, 6, 0, 1, 2);
  }

  private static void startRefused() {
    about("promise 5: a refused start leaves what was started");
    PulseNet x = line(3);
    due("start", x.start(LENGTHS, TREE, 1, 2, 3), 4);
    comes(x, 1, NOTE);
    int[][] bad = {{-1, 0, 0, 2, 3}, {4, 0, 0, 2, 3}, {0, -1, 0, 2, 3}, {0, 3, 0, 2, 3}, {0, 0, -1, 2, 3},
        {0, 0, 3, 2, 3}, {0, 0, 0, 2, 0}, {0, 0, 0, 2, 21}, {0, 2, 0, 1, 3}, {0, 2, 0, 9, 3}};
    for (int[] b : bad) {
      due("start", x.start(b[0], b[1], b[2], b[3], b[4]), BAD);
      pool(x, READY, 0, 1, 1, 0, NOTE, 1, 2, 1, 0, READY, 2, 1, 1, 0, ACK, 0, 1, 1, 0);
      all("leader", x, 6, 1, 1, 1);
    }
    due("past(0, 3)", x.past(0, 3), NOT_YET);
    due("past(0, 4)", x.past(0, 4), BAD);
    x.flow(3000, 1);
    behind(x, 3, 1, 0, 1);
    PulseNet y = line(3);
    due("start", y.start(LENGTHS, TREE, 3, 2, 3), BAD);
    nothingStarted(y);
  }

  // Promise 6

  private static void comeRange() {
    about("promise 6: letter i of the pool comes; BAD: there is none such");
    PulseNet x = line(3);
    due("start", x.start(GREATEST, ALL, 0, 2, 1), 4);
    for (int i : new int[] {-1, 4, 5, 256, LEAST, MOST}) {
      due("come(" + i + ")", x.come(i), BAD);
    }
    due("the last one", x.come(3), NOTE);
    pool(x, NOTE, 0, 1, 1, 0, NOTE, 1, 0, 1, 0, NOTE, 1, 2, 1, 0, ACK, 1, 2, 1, 0);
    due("the first one", x.come(0), NOTE);
    pool(x, NOTE, 1, 0, 1, 0, NOTE, 1, 2, 1, 0, ACK, 1, 2, 1, 0, ACK, 1, 0, 1, 0);
  }

  /** Each kind comes once at least, and is told as letter() told it. */
  private static void comeCloses() {
    about("promise 6: its kind; letters wait in the order in which they were sent");
    PulseNet x = line(3);
    marks(x, 1, 2, 3);
    x.start(GREATEST, CLUSTERS, 0, 2, 2);
    int[] seen = new int[7];
    for (int turn = 0; turn < 100 && x.count(2) > 0; turn++) {
      int i = x.count(2) / 2;
      int kind = x.letter(i, 0);
      due("come(" + i + ")", x.come(i), kind);
      seen[kind]++;
    }
    due("all came", x.count(7), 1);
    for (int kind = NOTE; kind <= DONE; kind++) {
      due("kind " + kind + " was among them", Math.min(1, seen[kind]), 1);
    }
    due("nothing waits", x.come(0), BAD);
    due("as many NOTEs as were sent", seen[NOTE], x.count(3));
    PulseNet y = line(4);
    due("start", y.start(CHOICE, ALL, 0, 2, 1), 6);
    comes(y, 2, NOTE);
    pool(y, NOTE, 0, 1, 1, 0, NOTE, 1, 0, 1, 0, NOTE, 2, 1, 1, 0, NOTE, 2, 3, 1, 0, NOTE, 3, 2, 1, 0,
        ACK, 2, 1, 1, 0);
  }

  private static void comeRefused() {
    about("promise 6: a refused come leaves all as it was");
    PulseNet x = line(2);
    due("nothing started", x.come(0), BAD);
    due("start", x.start(WAVES, ALL, 0, 2, 2), 2);
    for (int i : new int[] {-1, 2, LEAST, MOST}) {
      due("come(" + i + ")", x.come(i), BAD);
      pool(x, NOTE, 0, 1, 1, 1, SAFE, 1, 0, 1, 0);
      counts(x, 3, 1, 1, 1, 1, 0);
    }
  }

  // Promise 7

  /** The seeds are written out: each is 69069 times the one before, and 1, modulo 2^31. */
  private static void seedsOf(int... seeds) {
    PulseNet x = full(6);
    PulseNet twin = full(6);
    due("start", x.start(GREATEST, ALL, 0, 2, 2), 30);
    due("start", twin.start(GREATEST, ALL, 0, 2, 2), 30);
    due("flow", x.flow(seeds.length, seeds[0]), seeds.length);
    for (int seed : seeds) {
      twin.come(seed % twin.count(2));
    }
    int waits = twin.count(2);
    due("count(2)", x.count(2), waits);
    for (int i = 0; i < waits; i++) {
      for (int what = 0; what < 3; what++) {
        due("letter(" + i + ", " + what + ")", x.letter(i, what), twin.letter(i, what));
      }
    }
  }

  private static void flowSeeds() {
    about("promise 7: that of number (seed modulo m), the seed being another one each time");
    seedsOf(0, 1, 69070, 475628535, 1129920460, 772999773, 1730348410, 1674351795);
    seedsOf(31104, 838529, 2081784654, 2016615287, 1959332172, 1136741853, 1620873978, 1674732595);
    PulseNet x = line(3);
    due("start", x.start(GREATEST, ALL, 0, 2, 1), 4);
    due("flow(1, 5): 5 modulo 4", x.flow(1, 5), 1);
    pool(x, NOTE, 0, 1, 1, 0, NOTE, 1, 2, 1, 0, NOTE, 2, 1, 1, 0, ACK, 0, 1, 1, 0);
    due("flow(1, 4): 4 modulo 4", x.flow(1, 4), 1);
    pool(x, NOTE, 1, 2, 1, 0, NOTE, 2, 1, 1, 0, ACK, 0, 1, 1, 0, ACK, 1, 0, 1, 0);
    due("the next call has its own seed", x.flow(1, 4), 1);
    pool(x, NOTE, 2, 1, 1, 0, ACK, 0, 1, 1, 0, ACK, 1, 0, 1, 0, ACK, 2, 1, 1, 0);
  }

  /** 69069 (2^31 - 1) + 1 is 69068 less than 0 modulo 2^31. */
  private static void flowGreatestSeed() {
    about("promise 7: modulo 2^31; a seed below 0 is BAD, 0 and 2^31 - 1 are none such");
    seedsOf(2147483647, 2147414580, 1671993253, 1968820258, 1486841147, 1963134784, 1786345025, 1686503182);
    seedsOf(1073741824, 1073741825, 1073810894, 1549370359, 56178636, 1846741597, 656606586, 600609971);
    PulseNet x = line(2);
    due("start", x.start(GREATEST, ALL, 0, 2, 1), 2);
    due("2^31 - 1 is odd", x.flow(1, MOST), 1);
    pool(x, NOTE, 0, 1, 1, 0, ACK, 0, 1, 1, 0);
    due("seed 0", x.flow(1, 0), 1);
    pool(x, ACK, 0, 1, 1, 0, ACK, 1, 0, 1, 0);
    due("seed -1", x.flow(1, -1), BAD);
    due("seed -2^31", x.flow(1, LEAST), BAD);
    due("count(2)", x.count(2), 2);
  }

  /**
   * Marks 0 .. 11 in a full net, 20 rounds: 132 NOTEs in the first, 121 in the second (all but node 11 learn 11),
   * as many ACKs, and 132 SAFEs in each round: 3146 letters.
   */
  private static void flowMany() {
    about("promise 7: at most so many (0 .. 3,000)");
    PulseNet x = full(12);
    marks(x, 0, 1, 2, 3, 4, 5, 6, 7, 8, 9, 10, 11);
    due("start", x.start(GREATEST, ALL, 0, 2, 20), 132);
    due("flow(0, 0)", x.flow(0, 0), 0);
    due("flow(0, 2^31 - 1)", x.flow(0, MOST), 0);
    due("none came", x.letter(0, 0), NOTE);
    counts(x, 2, 132, 132, 0);
    due("flow(3000, 9)", x.flow(3000, 9), 3000);
    due("some wait", x.count(7), 0);
    due("flow(3000, 9)", x.flow(3000, 9), 146);
    counts(x, 2, 0, 253, 2893, 20, 20, 1);
    due("start", x.start(GREATEST, ALL, 0, 2, 20), 132);
    due("flow(1, 9)", x.flow(1, 9), 1);
    due("flow(2999, 9)", x.flow(2999, 9), 2999);
    due("flow(145, 9)", x.flow(145, 9), 145);
    counts(x, 2, 1);
    due("flow(1, 9)", x.flow(1, 9), 1);
    counts(x, 7, 1);
  }

  /** WAVES over one link, one round, with ALL: a NOTE, its ACK and two SAFEs. */
  private static void flowEnds() {
    about("promise 7: as long as there are some: how many");
    PulseNet x = line(2);
    due("nothing started", x.flow(3000, 1), 0);
    due("nothing started", x.flow(0, 0), 0);
    for (int many : new int[] {4, 5, 3000}) {
      due("start", x.start(WAVES, ALL, 0, 2, 1), 2);
      due("flow(" + many + ", 1)", x.flow(many, 1), 4);
      due("nothing waits", x.flow(many, 1), 0);
      counts(x, 2, 0, 1, 3, 1, 1, 1);
    }
    due("start", x.start(WAVES, ALL, 0, 2, 1), 2);
    due("flow(3, 1)", x.flow(3, 1), 3);
    counts(x, 2, 1);
    x.mark(0, 0);
    due("what was started is gone", x.flow(3, 1), 0);
    PulseNet one = net(1);
    one.start(WAVES, ALL, 0, 2, 20);
    due("one node sends none", one.flow(3000, 1), 0);
  }

  private static void flowRefused() {
    about("promise 7: BAD: another number, or a seed below 0; a refused flow leaves all as it was");
    PulseNet x = line(2);
    int[][] bad = {{-1, 0}, {3001, 0}, {LEAST, 0}, {MOST, 0}, {1, -1}, {0, -1}, {3000, LEAST}, {-1, -1}, {3001, -1}};
    for (int[] b : bad) {
      due("nothing started, flow(" + b[0] + ", " + b[1] + ")", x.flow(b[0], b[1]), BAD);
    }
    due("start", x.start(WAVES, ALL, 0, 2, 1), 2);
    for (int[] b : bad) {
      due("flow(" + b[0] + ", " + b[1] + ")", x.flow(b[0], b[1]), BAD);
      pool(x, NOTE, 0, 1, 1, 1, SAFE, 1, 0, 1, 0);
    }
    x.flow(3000, 0);
    for (int[] b : bad) {
      due("nothing waits, flow(" + b[0] + ", " + b[1] + ")", x.flow(b[0], b[1]), BAD);
    }
  }

  // Promise 8

  private static void toldRange() {
    about("promise 8: BAD: none such; 0 to 6: nothing was started");
    PulseNet x = line(3);
    for (int turn = 0; turn < 2; turn++) {
      for (int what : new int[] {-1, 8, 9, LEAST, MOST}) {
        due("told(0, " + what + ")", x.told(0, what), BAD);
      }
      for (int node : NO_NODE_OF_THREE) {
        for (int what = 0; what <= 7; what++) {
          due("told(" + node + ", " + what + ")", x.told(node, what), BAD);
        }
      }
      if (turn == 0) {
        nothingStarted(x);
        all("neighbours, nothing started", x, 7, 1, 2, 1);
        x.start(WAVES, TREE, 2, 2, 3);
      }
    }
    int[][] last = {{1, NONE, NONE, 0, 1, 1, 2, 1}, {1, NONE, NONE, 0, 1, 2, 2, 2}, {1, 0, NONE, 1, 0, NONE, 2, 1}};
    for (int node = 0; node < 3; node++) {
      for (int what = 0; what <= 7; what++) {
        due("told(" + node + ", " + what + ")", x.told(node, what), last[node][what]);
      }
    }
  }

  /** Node 1 in the middle has two notes without ACK, then one, then none, and only then it is safe. */
  private static void toldAcks() {
    about("promise 8: 3 notes without ACK, 4 whether it is safe");
    PulseNet x = line(3);
    due("start", x.start(WAVES, ALL, 1, 2, 2), 4);
    all("notes without ACK", x, 3, 0, 2, 0);
    all("safe", x, 4, 1, 0, 1);
    comes(x, 1, NOTE, 1, NOTE);
    pool(x, SAFE, 0, 1, 1, 0, SAFE, 2, 1, 1, 0, ACK, 0, 1, 1, 0, ACK, 2, 1, 1, 0);
    all("notes without ACK", x, 3, 0, 2, 0);
    comes(x, 2, ACK);
    all("notes without ACK", x, 3, 0, 1, 0);
    all("safe", x, 4, 1, 0, 1);
    comes(x, 2, ACK);
    all("notes without ACK", x, 3, 0, 0, 0);
    all("safe", x, 4, 1, 1, 1);
    all("round", x, 0, 1, 1, 1);
  }

  private static void toldNeighbours() {
    about("promise 8: 5 its upper (NONE without), 6 its leader (itself for ALL; the source for TREE), 7 neighbours");
    PulseNet x = full(12);
    for (int node = 0; node < 12; node++) {
      due("told(" + node + ", 7)", x.told(node, 7), 11);
    }
    x.start(WAVES, TREE, 11, 2, 1);
    all("upper", x, 5, 11, 11, 11, 11, 11, 11, 11, 11, 11, 11, 11, NONE);
    all("leader", x, 6, 11, 11, 11, 11, 11, 11, 11, 11, 11, 11, 11, 11);
    x.start(WAVES, CLUSTERS, 11, 8, 1);
    all("upper", x, 5, NONE, 0, 0, 0, 0, 0, 0, 0, 0, 0, 0, 0);
    all("leader", x, 6, 0, 0, 0, 0, 0, 0, 0, 0, 0, 0, 0, 0);
    x.start(WAVES, ALL, 11, 2, 1);
    all("upper", x, 5, NONE, NONE, NONE, NONE, NONE, NONE, NONE, NONE, NONE, NONE, NONE, NONE);
    all("leader", x, 6, 0, 1, 2, 3, 4, 5, 6, 7, 8, 9, 10, 11);
    PulseNet one = new PulseNet();
    for (int way = ALL; way <= CLUSTERS; way++) {
      one.start(WAVES, way, 0, 2, 1);
      all("upper", one, 5, NONE);
      all("leader", one, 6, 0);
    }
    due("told(0, 7)", one.told(0, 7), 0);
  }

  // Promise 9

  private static void pastRange() {
    about("promise 9: behind round r (0: at first); NOT_YET: it did not do that; BAD: no such node or round");
    PulseNet x = line(3);
    due("start", x.start(WAVES, ALL, 0, 2, 3), 4);
    due("SAFE of 1 to 2", x.come(2), SAFE);
    due("SAFE of 2 to 1", x.come(2), SAFE);
    all("round", x, 0, 1, 1, 2);
    int[][] want = {{0, 0, NOT_YET, NOT_YET}, {NONE, NONE, NOT_YET, NOT_YET}, {NONE, NONE, NONE, NOT_YET}};
    for (int node = 0; node < 3; node++) {
      for (int r = 0; r <= 3; r++) {
        due("past(" + node + ", " + r + ")", x.past(node, r), want[node][r]);
      }
      for (int r : new int[] {-1, 4, 5, 20, 21, LEAST, MOST}) {
        due("past(" + node + ", " + r + ")", x.past(node, r), BAD);
      }
    }
    for (int node : NO_NODE_OF_THREE) {
      for (int r = -1; r <= 4; r++) {
        due("past(" + node + ", " + r + ")", x.past(node, r), BAD);
      }
    }
    x.flow(3000, 0);
    due("past(2, 3)", x.past(2, 3), 2);
    due("past(2, 4)", x.past(2, 4), BAD);
    due("R of 20", x.start(WAVES, ALL, 0, 2, 20), 4);
    due("past(2, 20)", x.past(2, 20), NOT_YET);
    due("past(2, 21)", x.past(2, 21), BAD);
    x.link(0, 1, 1);
    due("nothing started", x.past(0, 0), BAD);
  }

  private static void pastKeeps() {
    about("promise 9: the value behind an earlier round is still told when it has become another");
    PulseNet x = line(4);
    marks(x, 10, 20, 30, 40);
    for (int way = ALL; way <= CLUSTERS; way++) {
      x.start(GREATEST, way, 3, 2, 20);
      x.flow(3000, 8);
      behind(x, 0, 10, 20, 30, 40);
      behind(x, 1, 10, 20, 30, 40);
      behind(x, 2, 20, 30, 40, 40);
      behind(x, 3, 30, 40, 40, 40);
      behind(x, 4, 40, 40, 40, 40);
      behind(x, 20, 40, 40, 40, 40);
    }
  }

  // Promise 10

  private static void inStepRange() {
    about("promise 10: what it would be in step; BAD: as above");
    PulseNet x = line(3);
    due("nothing started", x.inStep(0, 0), BAD);
    due("start", x.start(WAVES, ALL, 0, 2, 4), 4);
    int[][] want = {{0, 0, 0, 0, 0}, {NONE, NONE, 1, 1, 1}, {NONE, NONE, NONE, 2, 2}};
    for (int turn = 0; turn < 2; turn++) {
      for (int node = 0; node < 3; node++) {
        for (int r = 0; r <= 4; r++) {
          due("before and behind all letters, inStep(" + node + ", " + r + ")", x.inStep(node, r), want[node][r]);
        }
        for (int r : new int[] {-1, 5, 6, 20, 21, LEAST, MOST}) {
          due("inStep(" + node + ", " + r + ")", x.inStep(node, r), BAD);
        }
      }
      for (int node : NO_NODE_OF_THREE) {
        for (int r = -1; r <= 5; r++) {
          due("inStep(" + node + ", " + r + ")", x.inStep(node, r), BAD);
        }
      }
      x.flow(3000, 2);
    }
    x.begin(3);
    due("nothing started", x.inStep(0, 0), BAD);
  }

  // Promise 11

  private static void differRange() {
    about("promise 11: of how many nodes and rounds that they did; BAD: nothing was started");
    PulseNet x = full(5);
    due("nothing started", x.differ(), BAD);
    marks(x, 4, 4, 0, 99, 99);
    for (int way = ALL; way <= CLUSTERS; way++) {
      for (int program = WAVES; program <= LENGTHS; program++) {
        x.start(program, way, 4, 3, 3);
        due("at the start", x.differ(), 0);
        for (int i = 0; i < 12; i++) {
          x.come(x.count(2) - 1);
        }
        due("on the way", x.differ(), 0);
        x.flow(3000, 1);
        due("at the end", x.differ(), 0);
      }
    }
    x.mark(0, 4);
    due("nothing started", x.differ(), BAD);
    PulseNet one = new PulseNet();
    one.start(CHOICE, TREE, 0, 2, 20);
    due("one node", one.differ(), 0);
  }

  // Promise 12

  private static void letterRange() {
    about("promise 12: 0 kind, 1 from, 2 to, 3 round, 4 number; BAD: none such");
    PulseNet x = line(2);
    marks(x, 98, 99);
    due("start", x.start(GREATEST, ALL, 0, 2, 1), 2);
    for (int turn = 0; turn < 2; turn++) {
      pool(x, NOTE, 0, 1, 1, 98, NOTE, 1, 0, 1, 99);
    }
    for (int i : new int[] {-1, 2, 3, 256, LEAST, MOST}) {
      for (int what = 0; what <= 4; what++) {
        due("letter(" + i + ", " + what + ")", x.letter(i, what), BAD);
      }
    }
    for (int what : new int[] {-1, 5, 6, LEAST, MOST}) {
      due("letter(0, " + what + ")", x.letter(0, what), BAD);
      due("letter(2, " + what + ")", x.letter(2, what), BAD);
    }
    pool(x, NOTE, 0, 1, 1, 98, NOTE, 1, 0, 1, 99);
    x.flow(3000, 1);
    due("nothing waits", x.letter(0, 0), BAD);
    nothingStarted(net(1));
  }

  // Promise 13

  private static void countRange() {
    about("promise 13: BAD: another number; 2 to 9: nothing was started");
    PulseNet x = net(3, 0, 1, 1, 1, 2, 1);
    nothingStarted(x);
    counts(x, 0, 3, 2);
    for (int turn = 0; turn < 2; turn++) {
      for (int what : new int[] {-1, 10, 11, LEAST, MOST}) {
        due("count(" + what + ")", x.count(what), BAD);
      }
      x.start(WAVES, TREE, 2, 2, 2);
    }
    counts(x, 0, 3, 2, 2, 1, 1, 1, 1, 0, 1, 0);
  }

  /** Both nodes do round 1 of 1 at the start; what is over is over when the last SAFE has come. */
  private static void countOver() {
    about("promise 13: 7 whether all did round R and nothing waits");
    PulseNet x = line(2);
    due("start", x.start(WAVES, ALL, 0, 2, 1), 2);
    int[] kinds = {NOTE, SAFE, ACK, SAFE};
    for (int kind : kinds) {
      counts(x, 5, 1, 1, 0);
      due("come(0)", x.come(0), kind);
    }
    counts(x, 2, 0, 1, 3, 1, 1, 1);
    PulseNet one = new PulseNet();
    for (int way = ALL; way <= CLUSTERS; way++) {
      due("start", one.start(WAVES, way, 0, 2, 20), 0);
      counts(one, 0, 1, 0, 0, 0, 0, 20, 20, 1, 1, 0);
    }
  }

  private static void countClusters() {
    about("promise 13: 8 clusters (1 for the other ways), 9 chosen links");
    PulseNet x = full(12);
    x.start(GREATEST, ALL, 0, 2, 1);
    counts(x, 8, 1, 0);
    x.start(GREATEST, TREE, 0, 2, 1);
    counts(x, 8, 1, 0);
    x.start(GREATEST, CLUSTERS, 0, 2, 1);
    counts(x, 8, 1, 0);
    PulseNet y = line(12);
    y.start(GREATEST, CLUSTERS, 0, 2, 1);
    counts(y, 8, 6, 5);
    y.start(GREATEST, CLUSTERS, 0, 3, 1);
    counts(y, 8, 12, 11);
    y.start(GREATEST, TREE, 0, 3, 1);
    counts(y, 8, 1, 0);
  }

  // What it is

  /** The calls are counted: 12 that make a line, then rounds of five calls to the 507th, then the last five. */
  private static void lastCalls() {
    about("what it is: an object is used for 512 calls, the last one as the first");
    PulseNet x = line(12);
    for (int calls = 12; calls < 507; calls += 5) {
      int way = calls % 3;
      due("start", x.start(GREATEST, way, 0, 2, 20), 22);
      due("flow", x.flow(3000, calls) > 0 ? 1 : 0, 1);
      counts(x, 5, 20, 20, 1);
    }
    due("call 508", x.start(LENGTHS, CLUSTERS, 0, 2, 20) > 0 ? 1 : 0, 1);
    due("call 509", x.flow(3000, 1) > 0 ? 1 : 0, 1);
    due("call 510", x.past(11, 12), 11);
    due("call 511", x.differ(), 0);
    due("call 512", x.count(7), 1);
    for (int calls = 512; calls < 1000; calls++) {
      x.start(GREATEST, calls % 3, 0, 2, 20);
      x.flow(3000, calls);
    }
  }
}
