/** Each promise of the document, with ordinary inputs, edges and wrong inputs; the answers are worked out by hand. */
public final class PromiseTest extends Check {
  public static void main(String[] args) {
    newObject();
    begin();
    link();
    mark();
    startRefuses();
    startAnswers();
    comeWithAll();
    comeAlongTree();
    comeInClusters();
    comeRefuses();
    flowOrder();
    flowEdges();
    toldOfTrees();
    toldOfClusters();
    toldRefuses();
    waves();
    greatest();
    choice();
    choiceOneByOne();
    lengths();
    past();
    inStep();
    differ();
    letter();
    countOfAll();
    countRefuses();
    chosenByLesserEnd();
    chosenByGreaterEnd();
    clusterGrowth();
    fullNet();
    longLine();
    end();
  }

  private static void newObject() {
    about("promise 1");
    PulseNet x = new PulseNet();
    due("count(0)", x.count(0), 1);
    due("count(1)", x.count(1), 0);
    due("count(2)", x.count(2), BAD);
    due("told(0, 7)", x.told(0, 7), 0);
    due("told(1, 7)", x.told(1, 7), BAD);
    due("told(0, 0)", x.told(0, 0), BAD);
    due("mark(1, 1)", x.mark(1, 1), BAD);
    due("mark(0, 1)", x.mark(0, 1), 0);
    for (int way = ALL; way <= CLUSTERS; way++) {
      due("start", x.start(GREATEST, way, 0, 2, 20), 0);
      due("told(0, 0)", x.told(0, 0), 20);
      due("told(0, 1)", x.told(0, 1), 1);
      due("count(7)", x.count(7), 1);
      due("count(8)", x.count(8), 1);
    }
    due("start", x.start(CHOICE, CLUSTERS, 0, 8, 2), 0);
    behind(x, 1, 0);
    behind(x, 2, 1);
  }

  private static void begin() {
    about("promise 2");
    PulseNet x = line(3);
    marks(x, 4, 5, 6);
    x.start(GREATEST, ALL, 0, 2, 3);
    for (int n : new int[] {0, 13, -1, LEAST, MOST}) {
      due("begin(" + n + ")", x.begin(n), BAD);
    }
    due("a refused begin leaves what was started", x.count(2), 4);
    due("and the nodes", x.count(0), 3);
    due("begin(12)", x.begin(12), 0);
    due("count(0)", x.count(0), 12);
    due("count(1)", x.count(1), 0);
    due("count(2)", x.count(2), BAD);
    due("told(1, 7)", x.told(1, 7), 0);
    due("mark(11, 9)", x.mark(11, 9), 0);
    due("mark(1, 9)", x.mark(1, 9), 0);
    due("begin(1)", x.begin(1), 0);
    due("mark(1, 9)", x.mark(1, 9), BAD);
    due("come(0)", x.come(0), BAD);
  }

  private static void link() {
    about("promise 3");
    PulseNet x = net(4);
    int[][] bad = {{0, 0, 1}, {0, 4, 1}, {4, 0, 1}, {-1, 0, 1}, {0, -1, 1}, {0, 1, 0}, {0, 1, 10}, {0, 1, -1},
        {MOST, 0, 1}, {0, LEAST, 1}, {0, 1, MOST}};
    for (int[] b : bad) {
      due("link", x.link(b[0], b[1], b[2]), BAD);
    }
    due("count(1)", x.count(1), 0);
    due("link(0, 1, 1)", x.link(0, 1, 1), 1);
    due("link(2, 1, 9)", x.link(2, 1, 9), 2);
    due("link(3, 2, 1)", x.link(3, 2, 1), 3);
    due("link(1, 2, 4)", x.link(1, 2, 4), 3);
    due("count(1)", x.count(1), 3);
    all("neighbours", x, 7, 1, 2, 2, 1);
    due("start", x.start(LENGTHS, ALL, 0, 0, 5), 6);
    due("refused", x.link(1, 1, 4), BAD);
    due("count(2)", x.count(2), 6);
    x.flow(3000, 1);
    due("the new length counts", x.past(3, 5), 6);
    due("link(1, 2, 4)", x.link(1, 2, 4), 3);
    due("what was started is gone", x.count(2), BAD);
    due("past", x.past(3, 5), BAD);
  }

  private static void mark() {
    about("promise 4");
    PulseNet x = line(2);
    due("mark(0, 99)", x.mark(0, 99), 0);
    due("mark(0, 0)", x.mark(0, 0), 99);
    due("mark(0, 7)", x.mark(0, 7), 0);
    due("start", x.start(GREATEST, ALL, 0, 2, 3), 2);
    int[][] bad = {{-1, 0}, {2, 0}, {0, -1}, {0, 100}, {MOST, 1}, {LEAST, 1}, {0, MOST}, {0, LEAST}};
    for (int[] b : bad) {
      due("mark", x.mark(b[0], b[1]), BAD);
    }
    due("still started", x.count(2), 2);
    due("mark(0, 7)", x.mark(0, 7), 7);
    due("what was started is gone", x.count(2), BAD);
  }

  private static void startRefuses() {
    about("promise 5");
    PulseNet x = line(3);
    due("start", x.start(WAVES, TREE, 1, 0, 3), 4);
    int[][] bad = {{-1, 0, 0, 2, 3}, {4, 0, 0, 2, 3}, {0, -1, 0, 2, 3}, {0, 3, 0, 2, 3}, {0, 0, -1, 2, 3},
        {0, 0, 3, 2, 3}, {1, 0, 3, 2, 3}, {0, 0, 0, 2, 0}, {0, 0, 0, 2, 21}, {0, 2, 0, 1, 3}, {0, 2, 0, 9, 3},
        {0, 2, 0, -1, 3}, {MOST, 0, 0, 2, 3}, {0, LEAST, 0, 2, 3}, {0, 0, MOST, 2, 3}, {0, 0, 0, 2, LEAST},
        {0, 2, 0, MOST, 3}, {0, 2, 0, LEAST, 3}};
    for (int[] b : bad) {
      due("start", x.start(b[0], b[1], b[2], b[3], b[4]), BAD);
    }
    due("the first one goes on", x.told(0, 6), 1);
    due("count(2)", x.count(2), 4);
    PulseNet y = net(4, 0, 1, 1, 2, 3, 1);
    for (int way = ALL; way <= CLUSTERS; way++) {
      due("not connected", y.start(WAVES, way, 0, 2, 3), BAD);
    }
    due("count(2)", y.count(2), BAD);
    due("link(1, 2, 1)", y.link(1, 2, 1), 3);
    due("connected", y.start(WAVES, ALL, 0, 2, 3), 6);
  }

  private static void startAnswers() {
    about("promise 5");
    PulseNet x = line(3);
    for (int k : new int[] {LEAST, -1, 0, 1, 9, MOST}) {
      due("K is of no meaning", x.start(WAVES, ALL, 0, k, 20), 4);
      due("K is of no meaning", x.start(WAVES, TREE, 0, k, 1), 2);
    }
    due("K 2", x.start(GREATEST, CLUSTERS, 0, 2, 3), 4);
    due("K 8", x.start(GREATEST, CLUSTERS, 2, 8, 3), 4);
    due("each writes", x.start(CHOICE, ALL, 2, 0, 3), 4);
    pool(x, NOTE, 0, 1, 1, 0, NOTE, 1, 0, 1, 0, NOTE, 1, 2, 1, 0, NOTE, 2, 1, 1, 0);
    due("the source writes, the others are safe", x.start(WAVES, ALL, 1, 0, 3), 4);
    pool(x, SAFE, 0, 1, 1, 0, NOTE, 1, 0, 1, 1, NOTE, 1, 2, 1, 1, SAFE, 2, 1, 1, 0);
    due("nothing of the earlier one", x.count(3), 2);
    due("count(4)", x.count(4), 2);
  }

  private static void comeWithAll() {
    about("promise 6, ALL");
    PulseNet x = line(2);
    due("start", x.start(WAVES, ALL, 0, 0, 2), 2);
    pool(x, NOTE, 0, 1, 1, 1, SAFE, 1, 0, 1, 0);
    all("safe", x, 4, 0, 1);
    due("come(0)", x.come(0), NOTE);
    pool(x, SAFE, 1, 0, 1, 0, ACK, 1, 0, 1, 0);
    due("come(0)", x.come(0), SAFE);
    all("round", x, 0, 1, 1);
    all("without ACK", x, 3, 1, 0);
    due("come(0)", x.come(0), ACK);
    pool(x, SAFE, 0, 1, 1, 0, SAFE, 0, 1, 2, 0);
    all("round", x, 0, 2, 1);
    due("a SAFE of a later round", x.come(1), SAFE);
    all("round", x, 0, 2, 1);
    due("come(0)", x.come(0), SAFE);
    all("round", x, 0, 2, 2);
    pool(x, NOTE, 1, 0, 2, 2);
    due("come(0)", x.come(0), NOTE);
    pool(x, ACK, 0, 1, 2, 0);
    due("come(0)", x.come(0), ACK);
    pool(x, SAFE, 1, 0, 2, 0);
    due("count(7)", x.count(7), 0);
    due("come(0)", x.come(0), SAFE);
    due("count(7)", x.count(7), 1);
    due("count(3)", x.count(3), 2);
    due("count(4)", x.count(4), 6);
    due("come(0)", x.come(0), BAD);
  }

  private static void comeAlongTree() {
    about("promise 6, TREE");
    PulseNet x = line(3);
    due("start", x.start(WAVES, TREE, 0, 0, 2), 2);
    pool(x, NOTE, 0, 1, 1, 1, READY, 2, 1, 1, 0);
    due("come(1)", x.come(1), READY);
    pool(x, NOTE, 0, 1, 1, 1, READY, 1, 0, 1, 0);
    due("come(1)", x.come(1), READY);
    due("come(0)", x.come(0), NOTE);
    pool(x, ACK, 1, 0, 1, 0);
    due("come(0)", x.come(0), ACK);
    pool(x, GO, 0, 1, 2, 0);
    all("round", x, 0, 2, 1, 1);
    due("come(0)", x.come(0), GO);
    pool(x, GO, 1, 2, 2, 0, NOTE, 1, 0, 2, 2, NOTE, 1, 2, 2, 2);
    due("a NOTE of a later round", x.come(2), NOTE);
    pool(x, GO, 1, 2, 2, 0, NOTE, 1, 0, 2, 2, ACK, 2, 1, 2, 0);
    due("come(0)", x.come(0), GO);
    pool(x, NOTE, 1, 0, 2, 2, ACK, 2, 1, 2, 0, READY, 2, 1, 2, 0);
    due("that NOTE is for round 3", x.told(2, 1), NONE);
    due("come(2)", x.come(2), READY);
    due("come(1)", x.come(1), ACK);
    due("come(0)", x.come(0), NOTE);
    due("come(0)", x.come(0), ACK);
    pool(x, READY, 1, 0, 2, 0);
    due("come(0)", x.come(0), READY);
    due("behind round R nothing begins", x.count(7), 1);
    due("count(3)", x.count(3), 3);
    due("count(4)", x.count(4), 9);
  }

  private static void comeInClusters() {
    about("promise 6, CLUSTERS");
    PulseNet x = line(4);
    due("start", x.start(WAVES, CLUSTERS, 0, 2, 2), 3);
    pool(x, NOTE, 0, 1, 1, 1, READY, 1, 0, 1, 0, READY, 3, 2, 1, 0);
    due("come(2)", x.come(2), READY);
    pool(x, NOTE, 0, 1, 1, 1, READY, 1, 0, 1, 0, FIRM, 2, 3, 1, 0, SAFE, 2, 1, 1, 0);
    due("a SAFE before it was told FIRM", x.come(3), SAFE);
    due("come(2)", x.come(2), FIRM);
    pool(x, NOTE, 0, 1, 1, 1, READY, 1, 0, 1, 0, DONE, 3, 2, 1, 0);
    due("come(2)", x.come(2), DONE);
    all("round", x, 0, 1, 1, 1, 1);
    due("come(1)", x.come(1), READY);
    due("come(0)", x.come(0), NOTE);
    due("come(0)", x.come(0), ACK);
    pool(x, FIRM, 0, 1, 1, 0);
    due("come(0)", x.come(0), FIRM);
    pool(x, SAFE, 1, 2, 1, 0, DONE, 1, 0, 1, 0);
    due("come(0)", x.come(0), SAFE);
    pool(x, DONE, 1, 0, 1, 0, GO, 2, 3, 2, 0);
    all("round", x, 0, 1, 1, 2, 1);
    due("come(0)", x.come(0), DONE);
    all("round", x, 0, 2, 1, 2, 1);
    pool(x, GO, 2, 3, 2, 0, GO, 0, 1, 2, 0);
    due("come(1)", x.come(1), GO);
    pool(x, GO, 2, 3, 2, 0, NOTE, 1, 0, 2, 2, NOTE, 1, 2, 2, 2);
    due("flow", x.flow(3000, 1), 13);
    due("count(7)", x.count(7), 1);
    due("count(3)", x.count(3), 3);
    due("count(4)", x.count(4), 21);
  }

  private static void comeRefuses() {
    about("promise 6");
    PulseNet x = line(2);
    due("nothing was started", x.come(0), BAD);
    x.start(GREATEST, ALL, 0, 0, 1);
    for (int i : new int[] {-1, 2, LEAST, MOST}) {
      due("come(" + i + ")", x.come(i), BAD);
    }
    due("count(2)", x.count(2), 2);
    due("come(1)", x.come(1), NOTE);
    pool(x, NOTE, 0, 1, 1, 0, ACK, 0, 1, 1, 0);
  }

  /** A twin to which the same letters come one by one, by the rule for the seed. */
  private static void flowOrder() {
    about("promise 7");
    for (int seed : new int[] {0, 1, 77, 69069, MOST}) {
      PulseNet x = line(12);
      PulseNet twin = line(12);
      marks(x, 9, 1, 8, 2, 7, 3, 6, 4, 5, 11, 10, 12);
      marks(twin, 9, 1, 8, 2, 7, 3, 6, 4, 5, 11, 10, 12);
      x.start(GREATEST, ALL, 5, 0, 3);
      twin.start(GREATEST, ALL, 5, 0, 3);
      due("flow", x.flow(25, seed), 25);
      long now = seed;
      for (int i = 0; i < 25; i++) {
        twin.come((int) (now % twin.count(2)));
        now = (69069 * now + 1) % (1L << 31);
      }
      int waits = twin.count(2);
      due("count(2)", x.count(2), waits);
      for (int i = 0; i < waits * 5; i++) {
        due("letter(" + i / 5 + ", " + i % 5 + ")", x.letter(i / 5, i % 5), twin.letter(i / 5, i % 5));
      }
    }
  }

  private static void flowEdges() {
    about("promise 7");
    PulseNet x = line(2);
    due("nothing was started, so nothing waits", x.flow(5, 5), 0);
    due("flow(5, -1)", x.flow(5, -1), BAD);
    x.start(WAVES, ALL, 0, 0, 2);
    for (int many : new int[] {-1, 3001, LEAST, MOST}) {
      due("flow(" + many + ", 1)", x.flow(many, 1), BAD);
    }
    due("flow(1, LEAST)", x.flow(1, LEAST), BAD);
    due("flow(0, 0)", x.flow(0, 0), 0);
    due("count(2)", x.count(2), 2);
    due("flow(1, 1)", x.flow(1, 1), 1);
    due("letter 1 came", x.letter(0, 0), NOTE);
    due("flow(3000, 3)", x.flow(3000, 3), 7);
    due("flow(3000, 3)", x.flow(3000, 3), 0);
  }

  private static void toldOfTrees() {
    about("promise 8");
    PulseNet x = net(5, 0, 1, 1, 0, 2, 1, 1, 3, 1, 2, 3, 1, 3, 4, 1, 1, 2, 1);
    x.start(GREATEST, ALL, 4, 0, 2);
    all("upper", x, 5, NONE, NONE, NONE, NONE, NONE);
    all("leader", x, 6, 0, 1, 2, 3, 4);
    all("neighbours", x, 7, 2, 3, 3, 3, 1);
    all("without ACK", x, 3, 2, 3, 3, 3, 1);
    all("safe", x, 4, 0, 0, 0, 0, 0);
    all("round", x, 0, 1, 1, 1, 1, 1);
    x.start(WAVES, TREE, 4, 0, 2);
    all("upper", x, 5, 1, 3, 3, 4, NONE);
    all("leader", x, 6, 4, 4, 4, 4, 4);
    all("without ACK", x, 3, 0, 0, 0, 0, 1);
    all("safe", x, 4, 1, 1, 1, 1, 0);
    x.start(WAVES, TREE, 0, 0, 2);
    all("upper", x, 5, NONE, 0, 0, 1, 3);
    all("value", x, 1, 0, NONE, NONE, NONE, NONE);
    all("parent", x, 2, NONE, NONE, NONE, NONE, NONE);
  }

  /** Node 4 has the neighbour 1 on level 1 too, but in the other cluster: its upper is 3. */
  private static void toldOfClusters() {
    about("promise 8");
    PulseNet x = net(6, 0, 1, 1, 1, 4, 1, 2, 3, 1, 3, 4, 1, 3, 5, 1);
    x.start(WAVES, CLUSTERS, 5, 2, 2);
    all("leader", x, 6, 0, 0, 2, 2, 2, 2);
    all("upper", x, 5, NONE, 0, NONE, 2, 3, 3);
    due("count(8)", x.count(8), 2);
    due("count(9)", x.count(9), 1);
  }

  private static void toldRefuses() {
    about("promise 8");
    PulseNet x = line(3);
    for (int what = 0; what < 7; what++) {
      due("nothing was started", x.told(0, what), BAD);
    }
    due("told(1, 7)", x.told(1, 7), 2);
    x.start(WAVES, ALL, 0, 0, 2);
    for (int what : new int[] {-1, 8, LEAST, MOST}) {
      due("told(0, " + what + ")", x.told(0, what), BAD);
    }
    for (int node : new int[] {-1, 3, 12, LEAST, MOST}) {
      due("told(" + node + ", 0)", x.told(node, 0), BAD);
      due("told(" + node + ", 7)", x.told(node, 7), BAD);
    }
  }

  private static void waves() {
    about("promise 9, WAVES");
    for (int way = ALL; way <= CLUSTERS; way++) {
      PulseNet x = net(5, 0, 1, 9, 0, 2, 1, 1, 3, 1, 2, 3, 1, 3, 4, 1);
      x.start(WAVES, way, 4, 2, 4);
      x.flow(3000, 12);
      behind(x, 0, NONE, NONE, NONE, NONE, 0);
      behind(x, 1, NONE, NONE, NONE, NONE, 0);
      behind(x, 2, NONE, NONE, NONE, 1, 0);
      behind(x, 3, NONE, 2, 2, 1, 0);
      behind(x, 4, 3, 2, 2, 1, 0);
      all("parent", x, 2, 1, 3, 3, 4, NONE);
    }
  }

  private static void greatest() {
    about("promise 9, GREATEST");
    for (int way = ALL; way <= CLUSTERS; way++) {
      PulseNet x = net(5, 0, 1, 1, 0, 2, 1, 0, 3, 1, 3, 4, 1);
      marks(x, 5, 6, 9, 9, 20);
      x.start(GREATEST, way, 0, 2, 5);
      x.flow(3000, 99);
      behind(x, 0, 5, 6, 9, 9, 20);
      behind(x, 1, 5, 6, 9, 9, 20);
      behind(x, 2, 9, 6, 9, 20, 20);
      behind(x, 3, 20, 9, 9, 20, 20);
      behind(x, 4, 20, 20, 20, 20, 20);
      behind(x, 5, 20, 20, 20, 20, 20);
      all("parent", x, 2, 3, 0, 0, 4, NONE);
      x.start(GREATEST, way, 0, 2, 2);
      x.flow(3000, 7);
      all("the least one that wrote the greatest", x, 2, 2, NONE, NONE, 4, NONE);
    }
  }

  private static void choice() {
    about("promise 9, CHOICE");
    for (int way = ALL; way <= CLUSTERS; way++) {
      PulseNet x = line(3);
      marks(x, 5, 5, 5);
      x.start(CHOICE, way, 0, 2, 5);
      x.flow(3000, 4);
      behind(x, 0, 0, 0, 0);
      behind(x, 1, 0, 0, 0);
      behind(x, 2, 0, 0, 1);
      behind(x, 3, 0, 2, 1);
      behind(x, 4, 1, 2, 1);
      behind(x, 5, 1, 2, 1);
      all("parent", x, 2, NONE, 2, NONE);
      PulseNet y = net(5, 0, 1, 1, 0, 2, 1, 0, 3, 1, 3, 4, 1);
      marks(y, 1, 0, 2, 3, 50);
      y.start(CHOICE, way, 0, 2, 6);
      y.flow(3000, 4);
      behind(y, 2, 0, 0, 1, 0, 1);
      behind(y, 3, 2, 0, 1, 2, 1);
      behind(y, 4, 2, 1, 1, 2, 1);
      behind(y, 6, 2, 1, 1, 2, 1);
      all("parent", y, 2, 2, NONE, NONE, 4, NONE);
      due("NOTEs", y.count(3), 8 + 2 + 1 + 1);
      marks(y, 1, 4, 2, 3, 0);
      y.start(CHOICE, way, 0, 2, 6);
      y.flow(3000, 4);
      behind(y, 2, 0, 1, 1, 1, 0);
      behind(y, 3, 2, 1, 1, 1, 2);
      all("parent", y, 2, 1, NONE, NONE, NONE, 3);
    }
  }

  private static void choiceOneByOne() {
    about("promise 9, CHOICE");
    for (int way = ALL; way <= CLUSTERS; way++) {
      PulseNet x = line(5);
      marks(x, 1, 2, 3, 4, 5);
      x.start(CHOICE, way, 0, 2, 6);
      x.flow(3000, 4);
      behind(x, 2, 0, 0, 0, 0, 1);
      behind(x, 3, 0, 0, 0, 2, 1);
      behind(x, 4, 0, 0, 1, 2, 1);
      behind(x, 5, 0, 2, 1, 2, 1);
      behind(x, 6, 1, 2, 1, 2, 1);
      all("parent", x, 2, NONE, 2, NONE, 4, NONE);
      due("NOTEs", x.count(3), 8 + 1 + 5 + 2 + 1 + 1);
    }
  }

  private static void lengths() {
    about("promise 9, LENGTHS");
    for (int way = ALL; way <= CLUSTERS; way++) {
      PulseNet x = net(5, 0, 1, 9, 0, 2, 1, 2, 1, 1, 1, 3, 4, 2, 3, 5, 0, 4, 2, 2, 4, 1);
      x.start(LENGTHS, way, 0, 2, 5);
      x.flow(3000, 31);
      behind(x, 0, 0, NONE, NONE, NONE, NONE);
      behind(x, 1, 0, NONE, NONE, NONE, NONE);
      behind(x, 2, 0, 9, 1, NONE, 2);
      behind(x, 3, 0, 2, 1, 6, 2);
      behind(x, 4, 0, 2, 1, 6, 2);
      all("parent", x, 2, NONE, 2, 0, 2, 0);
      PulseNet y = net(4, 0, 1, 1, 0, 2, 1, 1, 3, 2, 2, 3, 2);
      y.start(LENGTHS, way, 0, 2, 4);
      y.flow(3000, 31);
      behind(y, 3, 0, 1, 1, 3);
      due("of two that are the same, the least one", y.told(3, 2), 1);
    }
  }

  private static void past() {
    about("promise 9");
    PulseNet x = line(3);
    due("nothing was started", x.past(0, 0), BAD);
    x.start(LENGTHS, ALL, 0, 0, 4);
    due("past(0, 0)", x.past(0, 0), 0);
    due("past(1, 0)", x.past(1, 0), NONE);
    due("past(0, 1)", x.past(0, 1), 0);
    due("past(1, 2)", x.past(1, 2), NOT_YET);
    due("past(1, 4)", x.past(1, 4), NOT_YET);
    for (int r : new int[] {-1, 5, 20, 21, LEAST, MOST}) {
      due("past(0, " + r + ")", x.past(0, r), BAD);
    }
    for (int node : new int[] {-1, 3, LEAST, MOST}) {
      due("past(" + node + ", 1)", x.past(node, 1), BAD);
    }
    x.start(LENGTHS, ALL, 2, 0, 1);
    due("past(0, 2)", x.past(0, 2), BAD);
    due("past(2, 0)", x.past(2, 0), 0);
  }

  private static void inStep() {
    about("promise 10");
    PulseNet x = line(3);
    due("nothing was started", x.inStep(0, 0), BAD);
    x.start(LENGTHS, ALL, 0, 0, 4);
    due("rounds that were not done", x.inStep(2, 3), 2);
    due("inStep(2, 2)", x.inStep(2, 2), NONE);
    due("inStep(1, 2)", x.inStep(1, 2), 1);
    due("inStep(1, 4)", x.inStep(1, 4), 1);
    for (int r : new int[] {-1, 5, 20, 21, LEAST, MOST}) {
      due("inStep(0, " + r + ")", x.inStep(0, r), BAD);
    }
    for (int node : new int[] {-1, 3, LEAST, MOST}) {
      due("inStep(" + node + ", 1)", x.inStep(node, 1), BAD);
    }
    x.mark(0, 0);
    due("what was started is gone", x.inStep(0, 0), BAD);
  }

  private static void differ() {
    about("promise 11");
    PulseNet x = line(4);
    due("nothing was started", x.differ(), BAD);
    marks(x, 3, 1, 4, 1);
    for (int seed = 0; seed < 36; seed++) {
      due("start", Math.min(0, x.start(seed % 4, seed % 3, seed % 4, 2, 6)), 0);
      for (int turn = 0; turn < 5; turn++) {
        x.flow(17, seed);
        due("differ", x.differ(), 0);
      }
      x.flow(3000, seed);
      due("differ", x.differ(), 0);
    }
    x.link(0, 1, 2);
    due("what was started is gone", x.differ(), BAD);
  }

  private static void letter() {
    about("promise 12");
    PulseNet x = line(2);
    due("nothing was started", x.letter(0, 0), BAD);
    marks(x, 8, 99);
    x.start(GREATEST, ALL, 0, 0, 2);
    pool(x, NOTE, 0, 1, 1, 8, NOTE, 1, 0, 1, 99);
    for (int i : new int[] {-1, 2, LEAST, MOST}) {
      due("letter(" + i + ", 0)", x.letter(i, 0), BAD);
    }
    for (int what : new int[] {-1, 5, LEAST, MOST}) {
      due("letter(0, " + what + ")", x.letter(0, what), BAD);
    }
    x.start(CHOICE, TREE, 0, 0, 2);
    for (int kind : new int[] {NOTE, NOTE, ACK, ACK}) {
      due("come(0)", x.come(0), kind);
    }
    pool(x, READY, 1, 0, 1, 0);
    x.come(0);
    pool(x, GO, 0, 1, 2, 0);
    x.come(0);
    pool(x, NOTE, 1, 0, 2, -1);
    x.begin(2);
    due("gone", x.letter(0, 0), BAD);
  }

  private static void countOfAll() {
    about("promise 13");
    PulseNet x = line(3);
    x.start(WAVES, ALL, 0, 0, 3);
    int[] first = {3, 2, 4, 1, 3, 1, 1, 0, 1, 0};
    for (int what = 0; what < 10; what++) {
      due("count(" + what + ")", x.count(what), first[what]);
    }
    due("SAFE of 1 to 2", x.come(2), SAFE);
    due("SAFE of 2 to 1", x.come(2), SAFE);
    int[] second = {3, 2, 3, 1, 4, 1, 2, 0, 1, 0};
    for (int what = 0; what < 10; what++) {
      due("count(" + what + ")", x.count(what), second[what]);
    }
    x.flow(3000, 8);
    int[] last = {3, 2, 0, 4, 16, 3, 3, 1, 1, 0};
    for (int what = 0; what < 10; what++) {
      due("count(" + what + ")", x.count(what), last[what]);
    }
  }

  private static void countRefuses() {
    about("promise 13");
    PulseNet x = line(3);
    for (int what : new int[] {-1, 2, 3, 4, 5, 6, 7, 8, 9, 10, LEAST, MOST}) {
      due("nothing was started, count(" + what + ")", x.count(what), BAD);
    }
    due("count(0)", x.count(0), 3);
    due("count(1)", x.count(1), 2);
    x.start(WAVES, TREE, 0, 0, 3);
    for (int what : new int[] {-1, 10, LEAST, MOST}) {
      due("count(" + what + ")", x.count(what), BAD);
    }
  }

  /** Clusters 0, 1, 2 and 3, 4: the link 1 - 4 is chosen before 2 - 3, as its lesser end is less. */
  private static void chosenByLesserEnd() {
    about("chosen links");
    PulseNet x = net(5, 0, 1, 1, 0, 2, 1, 2, 3, 1, 1, 4, 1, 3, 4, 1);
    x.start(WAVES, CLUSTERS, 3, 3, 1);
    all("leader", x, 6, 0, 0, 0, 3, 4);
    due("count(8)", x.count(8), 3);
    due("count(9)", x.count(9), 3);
    x.start(WAVES, CLUSTERS, 3, 2, 1);
    all("leader", x, 6, 0, 0, 0, 3, 3);
    due("count(9)", x.count(9), 1);
    safesGoBetween(x, 1, 4);
  }

  /** Clusters 0, 1, 2 and 3, 4, 5: the links 2 - 4 and 2 - 5 have the same lesser end. */
  private static void chosenByGreaterEnd() {
    about("chosen links");
    PulseNet x = net(6, 0, 1, 1, 0, 2, 1, 2, 5, 1, 2, 4, 1, 3, 5, 1, 3, 4, 1);
    x.start(WAVES, CLUSTERS, 3, 3, 1);
    all("leader", x, 6, 0, 0, 0, 3, 3, 3);
    due("count(9)", x.count(9), 1);
    safesGoBetween(x, 2, 4);
  }

  private static void safesGoBetween(PulseNet x, int a, int b) {
    int seen = 0;
    while (x.count(2) > 0) {
      if (x.letter(0, 0) == SAFE) {
        due("the lesser end of a SAFE", Math.min(x.letter(0, 1), x.letter(0, 2)), a);
        due("the greater end of a SAFE", Math.max(x.letter(0, 1), x.letter(0, 2)), b);
        seen++;
      }
      x.come(0);
    }
    due("SAFEs", seen, 2);
    due("count(7)", x.count(7), 1);
  }

  /** A star with five ends: they come for K 6, as they are five times one, but not for K 7. */
  private static void clusterGrowth() {
    about("clusters");
    PulseNet x = net(6, 0, 1, 1, 0, 2, 1, 0, 3, 1, 0, 4, 1, 0, 5, 1);
    x.start(GREATEST, CLUSTERS, 0, 6, 2);
    due("count(8)", x.count(8), 1);
    due("count(9)", x.count(9), 0);
    x.start(GREATEST, CLUSTERS, 0, 7, 2);
    due("count(8)", x.count(8), 6);
    due("count(9)", x.count(9), 5);
    pool(x, NOTE, 0, 1, 1, 0, NOTE, 0, 2, 1, 0, NOTE, 0, 3, 1, 0, NOTE, 0, 4, 1, 0, NOTE, 0, 5, 1, 0,
        NOTE, 1, 0, 1, 0, NOTE, 2, 0, 1, 0, NOTE, 3, 0, 1, 0, NOTE, 4, 0, 1, 0, NOTE, 5, 0, 1, 0);
    x.flow(3000, 6);
    due("differ", x.differ(), 0);
    due("count(7)", x.count(7), 1);
    due("10 NOTEs", x.count(3), 10);
    due("10 ACKs and 10 SAFEs in each of 2 rounds", x.count(4), 30);
  }

  /** All 66 links and all 20 rounds: as many letters as there can be, none of which may be lost. */
  private static void fullNet() {
    about("a full net");
    PulseNet x = net(12);
    for (int a = 0; a < 12; a++) {
      for (int b = a + 1; b < 12; b++) {
        x.link(a, b, 1 + (a + b) % 9);
      }
      x.mark(a, a);
    }
    due("count(1)", x.count(1), 66);
    due("start", x.start(GREATEST, ALL, 0, 0, 20), 132);
    due("flow", x.flow(3000, 1), 3000);
    due("flow", x.flow(3000, 1), 146);
    due("count(3)", x.count(3), 132 + 121);
    due("count(4)", x.count(4), 253 + 20 * 132);
    due("count(7)", x.count(7), 1);
    for (int seed = 0; seed < 60; seed++) {
      x.start(seed % 4, seed / 4 % 3, seed % 12, 2 + seed % 7, 20);
      x.flow(3000, seed);
      x.flow(3000, seed);
      due("count(7)", x.count(7), 1);
      due("differ", x.differ(), 0);
    }
  }

  private static void longLine() {
    about("a long line");
    PulseNet x = line(12);
    for (int way = ALL; way <= CLUSTERS; way++) {
      for (int seed = 0; seed < 10; seed++) {
        x.start(LENGTHS, way, 0, 2, 20);
        x.flow(3000, seed);
        due("past(11, 11)", x.past(11, 11), NONE);
        due("past(11, 12)", x.past(11, 12), 11);
        due("past(11, 20)", x.past(11, 20), 11);
        due("count(7)", x.count(7), 1);
      }
    }
  }
}
