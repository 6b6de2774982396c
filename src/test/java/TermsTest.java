/**
 * The document's Terms, sentence by sentence where one names a boundary: round 1 and round R, nodes that write no
 * note, one node, ties, clusters that grow by none, chosen links, and the order in which letters are sent.
 */
public final class TermsTest extends Check {
  public static void main(String[] args) {
    oneNode();
    valuesAtFirst();
    firstRoundTakesNone();
    wavesTie();
    wavesOnlyOnce();
    wavesFarAway();
    greatestSame();
    greatestTie();
    choiceTie();
    choiceAlone();
    choiceParent();
    choiceNothingElse();
    lengthsTie();
    lengthsSame();
    lengthsLess();
    lengthsGreatest();
    notesInOrder();
    numbersOfLetters();
    ackRound();
    safeAtOnce();
    treeTies();
    stepWithAll();
    stepAlongTree();
    stepAlongTreeOwnAckLast();
    treeInTwoLevels();
    stepInOneCluster();
    stepInLoneClusters();
    doneLast();
    firmLast();
    clustersGrow();
    clustersGrowTwice();
    clustersGrowByNone();
    clustersLeader();
    clustersTree();
    chosenLesserEndInEither();
    chosenGreaterEnd();
    safesInOrder();
    lastRound();
    nothingBeginsBehindLastRound();
    end();
  }

  /** Lets all letters come in an order that a seed gives, and tells by differ that all went as in step. */
  private static void finish(PulseNet x, int seed) {
    x.flow(3000, seed);
    due("count(7)", x.count(7), 1);
    due("differ()", x.differ(), 0);
  }

  // Rounds and programs (promises 9 and 10 tell what comes of them)

  private static void oneNode() {
    about("promise 5, a net of one node: it goes through all rounds at the start");
    int[] behindAll = {0, 77, 1, 0};
    for (int way = ALL; way <= CLUSTERS; way++) {
      PulseNet x = new PulseNet();
      x.mark(0, 77);
      for (int program = WAVES; program <= LENGTHS; program++) {
        for (int rounds : new int[] {2, 3, 20}) {
          due("start", x.start(program, way, 0, 2, rounds), 0);
          behind(x, 0, program == GREATEST ? 77 : 0);
          behind(x, 1, program == GREATEST ? 77 : 0);
          behind(x, 2, behindAll[program]);
          behind(x, rounds, behindAll[program]);
          due("parent", x.told(0, 2), NONE);
        }
      }
      due("R of 1", x.start(CHOICE, way, 0, 2, 1), 0);
      counts(x, 2, 0, 0, 0, 1, 1, 1, 1, 0);
      behind(x, 1, 0);
    }
  }

  private static void valuesAtFirst() {
    about("promise 9, a value and a parent (NONE at first)");
    PulseNet x = line(3);
    marks(x, 5, 0, 99);
    int[][] want = {{NONE, 0, NONE}, {5, 0, 99}, {0, 0, 0}, {NONE, 0, NONE}};
    for (int way = ALL; way <= CLUSTERS; way++) {
      for (int program = WAVES; program <= LENGTHS; program++) {
        x.start(program, way, 1, 2, 3);
        behind(x, 0, want[program]);
        behind(x, 1, want[program]);
        all("value", x, 1, want[program]);
        all("parent", x, 2, NONE, NONE, NONE);
      }
    }
  }

  /** A NOTE of round 1 that comes while its reader is in round 1 is for round 2. */
  private static void firstRoundTakesNone() {
    about("promise 9, in round 1 none are taken: a NOTE that comes is kept for the next round");
    PulseNet x = line(2);
    marks(x, 1, 2);
    due("start", x.start(GREATEST, TREE, 1, 2, 2), 2);
    comes(x, 1, NOTE);
    all("value", x, 1, 1, 2);
    due("past(0, 1)", x.past(0, 1), 1);
    due("past(0, 2)", x.past(0, 2), NOT_YET);
    finish(x, 0);
    due("past(0, 1)", x.past(0, 1), 1);
    due("past(0, 2)", x.past(0, 2), 2);
  }

  private static void wavesTie() {
    about("promise 9, WAVES: its parent the least one that wrote");
    PulseNet x = net(5, 0, 3, 1, 0, 2, 1, 0, 1, 1, 3, 4, 1, 2, 4, 1, 1, 4, 9);
    for (int seed = 0; seed < 24; seed++) {
      x.start(WAVES, seed % 3, 0, 2, 3);
      finish(x, seed);
      behind(x, 3, 0, 1, 1, 1, 2);
      all("parent", x, 2, NONE, 0, 0, 0, 1);
    }
  }

  /** In a ring of three all have a value behind round 2: 2 notes of the source, then 2 of each other one. */
  private static void wavesOnlyOnce() {
    about("promise 9, WAVES: a node with the value NONE that takes notes writes 1 more, no other one writes");
    for (int way = ALL; way <= CLUSTERS; way++) {
      PulseNet x = full(3);
      x.start(WAVES, way, 1, 2, 6);
      finish(x, 11);
      behind(x, 2, 1, 0, 1);
      behind(x, 6, 1, 0, 1);
      all("parent", x, 2, 1, NONE, 1);
      due("NOTEs", x.count(3), 6);
      PulseNet y = line(2);
      y.start(WAVES, way, 0, 2, 5);
      finish(y, 11);
      behind(y, 5, 0, 1);
      due("NOTEs", y.count(3), 2);
    }
  }

  private static void wavesFarAway() {
    about("promise 9, WAVES: a node that is reached by the last round, and one that is not");
    PulseNet x = line(5);
    for (int way = ALL; way <= CLUSTERS; way++) {
      x.start(WAVES, way, 0, 2, 4);
      finish(x, 2);
      behind(x, 4, 0, 1, 2, 3, NONE);
      all("parent", x, 2, NONE, 0, 1, 2, NONE);
    }
  }

  private static void greatestSame() {
    about("promise 9, GREATEST: the same number is no greater one");
    for (int mark : new int[] {0, 50, 99}) {
      PulseNet x = full(4);
      marks(x, mark, mark, mark, mark);
      for (int way = ALL; way <= CLUSTERS; way++) {
        x.start(GREATEST, way, 0, 2, 5);
        finish(x, 6);
        behind(x, 5, mark, mark, mark, mark);
        all("parent", x, 2, NONE, NONE, NONE, NONE);
        due("only in round 1 each writes", x.count(3), 12);
      }
    }
  }

  private static void greatestTie() {
    about("promise 9, GREATEST: its parent the least one that wrote it");
    PulseNet x = star(5);
    int[][] marks = {{5, 7, 9, 8, 9}, {5, 9, 9, 9, 9}, {5, 6, 7, 8, 9}, {8, 8, 9, 9, 0}, {9, 9, 9, 9, 9}};
    int[] parent = {2, 1, 4, 2, NONE};
    for (int i = 0; i < marks.length; i++) {
      marks(x, marks[i]);
      for (int way = ALL; way <= CLUSTERS; way++) {
        x.start(GREATEST, way, 0, 2, 2);
        finish(x, i);
        due("value", x.told(0, 1), 9);
        due("parent", x.told(0, 2), parent[i]);
      }
    }
  }

  private static void choiceTie() {
    about("promise 9, CHOICE: none that is the same from a node with a greater number");
    for (int mark : new int[] {0, 7, 99}) {
      for (int way = ALL; way <= CLUSTERS; way++) {
        PulseNet x = full(3);
        marks(x, mark, mark, mark);
        x.start(CHOICE, way, 0, 2, 3);
        finish(x, 3);
        behind(x, 1, 0, 0, 0);
        behind(x, 2, 0, 0, 1);
        behind(x, 3, 2, 2, 1);
        all("parent", x, 2, 2, 2, NONE);
      }
    }
    PulseNet y = line(2);
    int[][] marks = {{5, 6}, {6, 5}, {0, 99}, {1, 0}};
    for (int[] m : marks) {
      marks(y, m);
      y.start(CHOICE, ALL, 0, 2, 3);
      finish(y, 3);
      behind(y, 2, m[0] > m[1] ? 1 : 0, m[0] > m[1] ? 0 : 1);
      behind(y, 3, m[0] > m[1] ? 1 : 2, m[0] > m[1] ? 2 : 1);
      all("parent", y, 2, m[0] > m[1] ? NONE : 1, m[0] > m[1] ? 0 : NONE);
    }
  }

  private static void choiceAlone() {
    about("promise 9, CHOICE: an open node that takes no mark is in in the next even round");
    PulseNet one = new PulseNet();
    one.start(CHOICE, ALL, 0, 2, 4);
    for (int r = 0; r <= 4; r++) {
      behind(one, r, r < 2 ? 0 : 1);
    }
    PulseNet x = line(3);
    marks(x, 1, 2, 3);
    x.start(CHOICE, ALL, 0, 2, 4);
    finish(x, 1);
    behind(x, 3, 0, 2, 1);
    behind(x, 4, 1, 2, 1);
  }

  /** Node 1 gets - 1 from 2 alone, and from 0, which is less, only its mark; with marks 9, 1, 9 it gets two. */
  private static void choiceParent() {
    about("promise 9, CHOICE: its parent is the least one that wrote - 1");
    for (int way = ALL; way <= CLUSTERS; way++) {
      PulseNet x = full(3);
      marks(x, 3, 1, 9);
      x.start(CHOICE, way, 0, 2, 3);
      finish(x, 5);
      behind(x, 3, 2, 2, 1);
      all("parent", x, 2, 2, 2, NONE);
      PulseNet y = line(3);
      marks(y, 9, 1, 9);
      y.start(CHOICE, way, 0, 2, 3);
      finish(y, 5);
      behind(y, 2, 1, 0, 1);
      behind(y, 3, 1, 2, 1);
      all("parent", y, 2, NONE, 0, NONE);
    }
  }

  /** Node 0 is in in round 4 only; 1 and 3 are out since round 3, and take its - 1 without a change. */
  private static void choiceNothingElse() {
    about("promise 9, CHOICE: nothing else changes");
    for (int way = ALL; way <= CLUSTERS; way++) {
      PulseNet x = net(5, 1, 2, 1, 0, 1, 1, 0, 3, 1, 3, 4, 1);
      marks(x, 5, 1, 9, 7, 8);
      x.start(CHOICE, way, 0, 2, 7);
      finish(x, 5);
      behind(x, 1, 0, 0, 0, 0, 0);
      behind(x, 2, 0, 0, 1, 0, 1);
      behind(x, 3, 0, 2, 1, 2, 1);
      behind(x, 4, 1, 2, 1, 2, 1);
      behind(x, 5, 1, 2, 1, 2, 1);
      behind(x, 7, 1, 2, 1, 2, 1);
      all("parent", x, 2, NONE, 2, NONE, 4, NONE);
      due("NOTEs", x.count(3), 8 + 2 + 2 + 2);
    }
  }

  /** Node 4 takes 6 from node 1, and 4 from both 2 and 3. */
  private static void lengthsTie() {
    about("promise 9, LENGTHS: the least one becomes its value, its parent the least one from which that came");
    PulseNet x = net(5, 0, 1, 1, 0, 2, 1, 0, 3, 1, 1, 4, 5, 3, 4, 3, 2, 4, 3);
    for (int seed = 0; seed < 24; seed++) {
      x.start(LENGTHS, seed % 3, 0, 2, 3);
      finish(x, seed);
      behind(x, 2, 0, 1, 1, 1, NONE);
      behind(x, 3, 0, 1, 1, 1, 4);
      all("parent", x, 2, NONE, 0, 0, 0, 2);
    }
  }

  /** Node 3 takes 4 from node 2 in round 3, and 4 again from node 1 in round 4. */
  private static void lengthsSame() {
    about("promise 9, LENGTHS: the same number again is not less");
    PulseNet x = net(5, 0, 2, 2, 2, 3, 2, 0, 4, 1, 4, 1, 1, 1, 3, 2);
    for (int way = ALL; way <= CLUSTERS; way++) {
      x.start(LENGTHS, way, 0, 2, 6);
      finish(x, 4);
      behind(x, 2, 0, NONE, 2, NONE, 1);
      behind(x, 3, 0, 2, 2, 4, 1);
      behind(x, 4, 0, 2, 2, 4, 1);
      all("parent", x, 2, NONE, 4, 0, 2, 0);
      due("each writes once", x.count(3), 10);
    }
  }

  /** As before, but node 1 offers 3 in round 4, so that node 3 writes again. */
  private static void lengthsLess() {
    about("promise 9, LENGTHS: a number that is less becomes its value, and is written");
    PulseNet x = net(5, 0, 2, 2, 2, 3, 2, 0, 4, 1, 4, 1, 1, 1, 3, 1);
    for (int way = ALL; way <= CLUSTERS; way++) {
      x.start(LENGTHS, way, 0, 2, 6);
      finish(x, 4);
      behind(x, 3, 0, 2, 2, 4, 1);
      behind(x, 4, 0, 2, 2, 3, 1);
      behind(x, 6, 0, 2, 2, 3, 1);
      all("parent", x, 2, NONE, 4, 0, 1, 0);
      due("node 3 writes twice", x.count(3), 12);
    }
  }

  private static void lengthsGreatest() {
    about("promise 9, LENGTHS: eleven links of the length 9");
    PulseNet x = line(12);
    for (int i = 1; i < 12; i++) {
      x.link(i - 1, i, 9);
    }
    for (int way = ALL; way <= CLUSTERS; way++) {
      x.start(LENGTHS, way, 0, 2, 12);
      finish(x, 4);
      due("past(11, 11)", x.past(11, 11), NONE);
      due("past(11, 12)", x.past(11, 12), 99);
    }
  }

  // Letters (promises 6 and 12)

  private static void notesInOrder() {
    about("promise 12: all begin round 1 in the order of their numbers, and write to neighbours in order");
    PulseNet x = net(4, 3, 0, 1, 2, 0, 1, 1, 0, 1, 2, 3, 1);
    marks(x, 40, 41, 42, 43);
    for (int way = ALL; way <= CLUSTERS; way++) {
      due("start", x.start(CHOICE, way, 3, 2, 2), 8);
      pool(x, NOTE, 0, 1, 1, 40, NOTE, 0, 2, 1, 40, NOTE, 0, 3, 1, 40, NOTE, 1, 0, 1, 41,
          NOTE, 2, 0, 1, 42, NOTE, 2, 3, 1, 42, NOTE, 3, 0, 1, 43, NOTE, 3, 2, 1, 43);
    }
    PulseNet y = net(3, 2, 1, 1, 2, 0, 1);
    due("start", y.start(LENGTHS, ALL, 2, 2, 2), 4);
    pool(y, SAFE, 0, 2, 1, 0, SAFE, 1, 2, 1, 0, NOTE, 2, 0, 1, 0, NOTE, 2, 1, 1, 0);
    due("start", y.start(WAVES, TREE, 2, 2, 2), 4);
    pool(y, READY, 0, 2, 1, 0, READY, 1, 2, 1, 0, NOTE, 2, 0, 1, 1, NOTE, 2, 1, 1, 1);
  }

  private static void numbersOfLetters() {
    about("promise 12: a number (0 of all but NOTEs)");
    for (int way = ALL; way <= CLUSTERS; way++) {
      PulseNet x = line(3);
      marks(x, 7, 7, 7);
      x.start(GREATEST, way, 0, 2, 2);
      while (x.count(2) > 0) {
        int i = x.count(2) - 1;
        due("number of kind " + x.letter(i, 0), x.letter(i, 4), x.letter(i, 0) == NOTE ? 7 : 0);
        x.come(i);
      }
    }
    PulseNet y = line(2);
    y.start(CHOICE, TREE, 0, 2, 2);
    comes(y, 0, NOTE, 0, NOTE, 0, ACK, 0, ACK, 0, READY, 0, GO);
    pool(y, NOTE, 1, 0, 2, -1);
  }

  /** Node 2 is still in round 1 when a NOTE of round 2 comes to it. */
  private static void ackRound() {
    about("promise 12: an ACK (of this round) is sent back at once");
    PulseNet x = line(3);
    marks(x, 9, 0, 0);
    due("start", x.start(GREATEST, TREE, 0, 2, 3), 4);
    comes(x, 0, NOTE, 0, NOTE, 0, NOTE, 0, NOTE);
    pool(x, ACK, 1, 0, 1, 0, ACK, 0, 1, 1, 0, ACK, 2, 1, 1, 0, ACK, 1, 2, 1, 0);
    comes(x, 3, ACK, 0, ACK, 0, ACK, 0, ACK, 0, READY, 0, READY, 0, GO);
    pool(x, GO, 1, 2, 2, 0, NOTE, 1, 0, 2, 9, NOTE, 1, 2, 2, 9);
    comes(x, 2, NOTE);
    pool(x, GO, 1, 2, 2, 0, NOTE, 1, 0, 2, 9, ACK, 2, 1, 2, 0);
    all("round", x, 0, 2, 2, 1);
    comes(x, 0, GO);
    all("the NOTE of round 2 is not taken in round 2", x, 1, 9, 9, 0);
    finish(x, 1);
    behind(x, 2, 9, 9, 0);
    behind(x, 3, 9, 9, 9);
  }

  private static void safeAtOnce() {
    about("promise 8: safe at once, if it wrote none; else when all notes have ACKs");
    PulseNet x = star(4);
    due("start", x.start(WAVES, TREE, 0, 2, 1), 6);
    pool(x, NOTE, 0, 1, 1, 1, NOTE, 0, 2, 1, 1, NOTE, 0, 3, 1, 1, READY, 1, 0, 1, 0, READY, 2, 0, 1, 0,
        READY, 3, 0, 1, 0);
    comes(x, 0, NOTE, 0, NOTE, 0, NOTE, 3, ACK, 3, ACK);
    all("two of three", x, 4, 0, 1, 1, 1);
    all("one without ACK", x, 3, 1, 0, 0, 0);
    comes(x, 3, ACK);
    all("three of three", x, 4, 1, 1, 1, 1);
  }

  private static void treeTies() {
    about("promise 8: a node that has a neighbour on level k, and none lower: its upper is the least of these");
    PulseNet x = net(7, 6, 5, 1, 6, 4, 1, 5, 3, 1, 4, 3, 1, 3, 2, 1, 4, 2, 1, 2, 1, 1, 1, 0, 1, 5, 4, 1, 6, 0, 1);
    x.start(WAVES, TREE, 6, 2, 1);
    all("upper", x, 5, 6, 0, 4, 4, 6, 6, NONE);
    x.start(WAVES, TREE, 3, 2, 1);
    all("upper", x, 5, 1, 2, 3, NONE, 3, 3, 4);
    x.start(WAVES, TREE, 0, 2, 1);
    all("upper", x, 5, NONE, 0, 1, 2, 6, 6, 0);
  }

  // Ways to keep step (promise 6)

  private static void stepWithAll() {
    about("promise 6, ALL: whichever is the last, its ACK or a SAFE, also one of the round behind");
    PulseNet x = line(2);
    marks(x, 1, 2);
    due("start", x.start(GREATEST, ALL, 0, 2, 3), 2);
    comes(x, 1, NOTE, 1, ACK, 1, SAFE, 0, NOTE);
    pool(x, ACK, 1, 0, 1, 0);
    all("round", x, 0, 1, 1);
    comes(x, 0, ACK);
    pool(x, SAFE, 0, 1, 1, 0, NOTE, 0, 1, 2, 2);
    all("round", x, 0, 2, 1);
    comes(x, 1, NOTE);
    pool(x, SAFE, 0, 1, 1, 0, ACK, 1, 0, 2, 0);
    comes(x, 1, ACK);
    pool(x, SAFE, 0, 1, 1, 0, SAFE, 0, 1, 2, 0);
    comes(x, 1, SAFE);
    all("a SAFE of round 2 is none of round 1", x, 0, 2, 1);
    comes(x, 0, SAFE);
    pool(x, SAFE, 1, 0, 2, 0, SAFE, 1, 0, 3, 0);
    all("two rounds at once", x, 0, 2, 3);
    comes(x, 1, SAFE);
    all("a SAFE of round 3 is none of round 2", x, 0, 2, 3);
    comes(x, 0, SAFE);
    pool(x, SAFE, 0, 1, 3, 0);
    all("round", x, 0, 3, 3);
    counts(x, 7, 0);
    comes(x, 0, SAFE);
    counts(x, 2, 0, 3, 9, 3, 3, 1);
  }

  private static void stepAlongTree() {
    about("promise 6, TREE: a GO to each node of which it is the upper, in order, before its notes");
    PulseNet x = star(4);
    marks(x, 0, 5, 5, 5);
    due("start", x.start(GREATEST, TREE, 0, 2, 2), 6);
    comes(x, 0, NOTE, 0, NOTE, 0, NOTE, 0, NOTE, 0, NOTE, 0, NOTE, 0, ACK, 0, ACK, 0, ACK, 2, ACK, 0, ACK, 0, ACK);
    pool(x, READY, 3, 0, 1, 0, READY, 1, 0, 1, 0, READY, 2, 0, 1, 0);
    comes(x, 1, READY, 1, READY);
    all("a READY is missing", x, 0, 1, 1, 1, 1);
    comes(x, 0, READY);
    pool(x, GO, 0, 1, 2, 0, GO, 0, 2, 2, 0, GO, 0, 3, 2, 0, NOTE, 0, 1, 2, 5, NOTE, 0, 2, 2, 5, NOTE, 0, 3, 2, 5);
    all("round", x, 0, 2, 1, 1, 1);
    comes(x, 1, GO);
    all("round", x, 0, 2, 1, 2, 1);
    pool(x, GO, 0, 1, 2, 0, GO, 0, 3, 2, 0, NOTE, 0, 1, 2, 5, NOTE, 0, 2, 2, 5, NOTE, 0, 3, 2, 5,
        READY, 2, 0, 2, 0);
    finish(x, 0);
    counts(x, 3, 9, 9 + 3 + 3 + 3);
  }

  private static void stepAlongTreeOwnAckLast() {
    about("promise 6, TREE: safe, and with a READY from each, whichever is the last");
    PulseNet x = line(2);
    due("start", x.start(GREATEST, TREE, 1, 2, 2), 2);
    comes(x, 0, NOTE, 0, NOTE, 0, ACK);
    pool(x, ACK, 0, 1, 1, 0, READY, 0, 1, 1, 0);
    comes(x, 1, READY);
    all("round", x, 0, 1, 1);
    comes(x, 0, ACK);
    pool(x, GO, 1, 0, 2, 0);
    all("round", x, 0, 1, 2);
    comes(x, 0, GO);
    pool(x, READY, 0, 1, 2, 0);
    comes(x, 0, READY);
    counts(x, 2, 0, 2, 5, 2, 2, 1);
  }

  /** 0 is over 1 and 2, 1 over 3 and 4; no node but the source writes in round 1, so READYs go at once. */
  private static void treeInTwoLevels() {
    about("promise 6, TREE: with a READY of r from each node of which it is the upper, it sends READY to its upper");
    PulseNet x = net(5, 0, 1, 1, 0, 2, 1, 1, 3, 1, 1, 4, 1);
    due("start", x.start(WAVES, TREE, 0, 2, 2), 5);
    pool(x, NOTE, 0, 1, 1, 1, NOTE, 0, 2, 1, 1, READY, 2, 0, 1, 0, READY, 3, 1, 1, 0, READY, 4, 1, 1, 0);
    comes(x, 4, READY);
    due("one of two", x.count(2), 4);
    comes(x, 3, READY);
    pool(x, NOTE, 0, 1, 1, 1, NOTE, 0, 2, 1, 1, READY, 2, 0, 1, 0, READY, 1, 0, 1, 0);
    comes(x, 3, READY, 2, READY, 1, NOTE, 0, NOTE, 0, ACK);
    all("round", x, 0, 1, 1, 1, 1, 1);
    comes(x, 0, ACK);
    pool(x, GO, 0, 1, 2, 0, GO, 0, 2, 2, 0);
    comes(x, 0, GO);
    pool(x, GO, 0, 2, 2, 0, GO, 1, 3, 2, 0, GO, 1, 4, 2, 0, NOTE, 1, 0, 2, 2, NOTE, 1, 3, 2, 2, NOTE, 1, 4, 2, 2);
    finish(x, 3);
    all("parent", x, 2, NONE, 0, 0, NONE, NONE);
  }

  private static void stepInOneCluster() {
    about("promise 6, CLUSTERS: one cluster with all nodes has no chosen link");
    PulseNet x = line(2);
    marks(x, 1, 2);
    due("start", x.start(GREATEST, CLUSTERS, 1, 2, 2), 2);
    counts(x, 8, 1, 0);
    comes(x, 0, NOTE, 0, NOTE, 0, ACK);
    pool(x, ACK, 0, 1, 1, 0);
    comes(x, 0, ACK);
    pool(x, READY, 1, 0, 1, 0);
    comes(x, 0, READY);
    pool(x, FIRM, 0, 1, 1, 0);
    comes(x, 0, FIRM);
    pool(x, DONE, 1, 0, 1, 0);
    all("round", x, 0, 1, 1);
    comes(x, 0, DONE);
    pool(x, GO, 0, 1, 2, 0, NOTE, 0, 1, 2, 2);
    all("round", x, 0, 2, 1);
    comes(x, 1, NOTE, 1, ACK, 0, GO);
    pool(x, READY, 1, 0, 2, 0);
    comes(x, 0, READY, 0, FIRM, 0, DONE);
    counts(x, 2, 0, 3, 10, 2, 2, 1);
  }

  /** With K 8 each node of a line is a cluster: the leader tells FIRM to itself, then SAFEs go as with ALL. */
  private static void stepInLoneClusters() {
    about("promise 6, CLUSTERS: a leader without others tells itself that its cluster is firm");
    PulseNet x = line(3);
    due("start", x.start(WAVES, CLUSTERS, 1, 8, 2), 4);
    counts(x, 8, 3, 2);
    pool(x, SAFE, 0, 1, 1, 0, NOTE, 1, 0, 1, 1, NOTE, 1, 2, 1, 1, SAFE, 2, 1, 1, 0);
    comes(x, 3, SAFE, 0, SAFE, 0, NOTE, 0, NOTE, 0, ACK);
    pool(x, ACK, 2, 1, 1, 0);
    comes(x, 0, ACK);
    pool(x, SAFE, 1, 0, 1, 0, SAFE, 1, 2, 1, 0, SAFE, 1, 0, 2, 0, SAFE, 1, 2, 2, 0);
    all("round", x, 0, 1, 2, 1);
    comes(x, 2, SAFE);
    all("a SAFE of round 2 is none of round 1", x, 0, 1, 2, 1);
    comes(x, 0, SAFE);
    all("round", x, 0, 2, 2, 1);
    pool(x, SAFE, 1, 2, 1, 0, SAFE, 1, 2, 2, 0, NOTE, 0, 1, 2, 2);
    finish(x, 0);
    counts(x, 3, 4, 4 + 8);
  }

  /** Clusters 0, 1 and 2, 3 with the chosen link 1 - 2; to leader 2 the DONE of 3 comes behind the SAFE of 1. */
  private static void doneLast() {
    about("promise 6, CLUSTERS: told FIRM, each SAFE and a DONE from each, with the DONE as the last");
    PulseNet x = line(4);
    due("start", x.start(WAVES, CLUSTERS, 0, 2, 2), 3);
    comes(x, 2, READY, 1, READY, 0, NOTE);
    pool(x, FIRM, 2, 3, 1, 0, SAFE, 2, 1, 1, 0, ACK, 1, 0, 1, 0);
    comes(x, 2, ACK);
    pool(x, FIRM, 2, 3, 1, 0, SAFE, 2, 1, 1, 0, FIRM, 0, 1, 1, 0);
    comes(x, 2, FIRM);
    pool(x, FIRM, 2, 3, 1, 0, SAFE, 2, 1, 1, 0, SAFE, 1, 2, 1, 0);
    comes(x, 2, SAFE);
    pool(x, FIRM, 2, 3, 1, 0, SAFE, 2, 1, 1, 0);
    comes(x, 0, FIRM);
    pool(x, SAFE, 2, 1, 1, 0, DONE, 3, 2, 1, 0);
    all("round", x, 0, 1, 1, 1, 1);
    comes(x, 1, DONE);
    pool(x, SAFE, 2, 1, 1, 0, GO, 2, 3, 2, 0);
    comes(x, 0, SAFE);
    pool(x, GO, 2, 3, 2, 0, DONE, 1, 0, 1, 0);
    all("round", x, 0, 1, 1, 2, 1);
    comes(x, 1, DONE);
    pool(x, GO, 2, 3, 2, 0, GO, 0, 1, 2, 0);
    all("round", x, 0, 2, 1, 2, 1);
    finish(x, 4);
  }

  private static void firmLast() {
    about("promise 6, CLUSTERS: a SAFE that comes before FIRM counts when FIRM comes");
    PulseNet x = line(4);
    due("start", x.start(WAVES, CLUSTERS, 0, 2, 2), 3);
    comes(x, 2, READY, 3, SAFE, 1, READY, 0, NOTE);
    pool(x, FIRM, 2, 3, 1, 0, ACK, 1, 0, 1, 0);
    comes(x, 1, ACK);
    pool(x, FIRM, 2, 3, 1, 0, FIRM, 0, 1, 1, 0);
    comes(x, 1, FIRM);
    pool(x, FIRM, 2, 3, 1, 0, SAFE, 1, 2, 1, 0, DONE, 1, 0, 1, 0);
    finish(x, 4);
  }

  // Clusters (promises 8 and 13)

  private static void clustersGrow() {
    about("promise 13, CLUSTERS: at least K - 1 times as many as it has");
    for (int k = 2; k <= 8; k++) {
      PulseNet enough = star(k);
      enough.start(WAVES, CLUSTERS, 0, k, 1);
      due("K " + k + " with K - 1 neighbours", enough.count(8), 1);
      due("chosen", enough.count(9), 0);
      if (k > 2) {
        PulseNet less = star(k - 1);
        less.start(WAVES, CLUSTERS, 0, k, 1);
        due("K " + k + " with K - 2 neighbours", less.count(8), k - 1);
        due("chosen", less.count(9), k - 2);
      }
    }
  }

  /** From 1 node to 3, then from 3 to 9 with six neighbours more, but not with five. */
  private static void clustersGrowTwice() {
    about("promise 8, CLUSTERS: as long as they are at least K - 1 times as many as it has");
    PulseNet x = net(9, 0, 1, 1, 0, 2, 1, 1, 3, 1, 1, 4, 1, 1, 5, 1, 2, 6, 1, 2, 7, 1, 2, 8, 1);
    x.start(WAVES, CLUSTERS, 0, 3, 1);
    all("leader", x, 6, 0, 0, 0, 0, 0, 0, 0, 0, 0);
    all("upper", x, 5, NONE, 0, 0, 1, 1, 1, 2, 2, 2);
    counts(x, 8, 1, 0);
    PulseNet y = net(8, 0, 1, 1, 0, 2, 1, 1, 3, 1, 1, 4, 1, 1, 5, 1, 2, 6, 1, 2, 7, 1);
    y.start(WAVES, CLUSTERS, 0, 3, 1);
    all("leader", y, 6, 0, 0, 0, 3, 4, 5, 6, 7);
    all("upper", y, 5, NONE, 0, 0, NONE, NONE, NONE, NONE, NONE);
    counts(y, 8, 6, 5);
  }

  /** In a line with K 3 each node has one neighbour at most that is in no cluster: none grows. */
  private static void clustersGrowByNone() {
    about("promise 8, CLUSTERS: only neighbours that are in none count, and come");
    PulseNet x = line(5);
    x.start(WAVES, CLUSTERS, 0, 3, 1);
    all("leader", x, 6, 0, 1, 2, 3, 4);
    all("upper", x, 5, NONE, NONE, NONE, NONE, NONE);
    counts(x, 8, 5, 4);
    x.start(WAVES, CLUSTERS, 0, 2, 1);
    all("K 2", x, 6, 0, 0, 2, 2, 4);
    counts(x, 8, 3, 2);
  }

  private static void clustersLeader() {
    about("promise 8, CLUSTERS: the least node that is in none is the leader");
    PulseNet x = net(4, 0, 3, 1, 3, 1, 1, 1, 2, 1);
    for (int source = 0; source < 4; source++) {
      x.start(WAVES, CLUSTERS, source, 2, 1);
      all("leader", x, 6, 0, 1, 1, 0);
      all("upper", x, 5, NONE, NONE, 1, 0);
      counts(x, 8, 2, 1);
    }
  }

  /** Node 1, in the cluster of 0, is a neighbour of another cluster's node: it is no upper there. */
  private static void clustersTree() {
    about("promise 8, CLUSTERS: in each cluster there is the tree of its leader");
    PulseNet x = net(6, 0, 1, 1, 1, 5, 1, 2, 3, 1, 2, 4, 1, 3, 5, 1, 4, 5, 1);
    x.start(WAVES, CLUSTERS, 0, 2, 1);
    all("leader", x, 6, 0, 0, 2, 2, 2, 5);
    all("upper", x, 5, NONE, 0, NONE, 2, 2, NONE);
    counts(x, 8, 3, 2);
    PulseNet y = net(6, 0, 1, 1, 1, 4, 1, 2, 3, 1, 3, 4, 1, 3, 5, 1);
    y.start(WAVES, CLUSTERS, 0, 2, 1);
    all("leader", y, 6, 0, 0, 2, 2, 2, 2);
    all("upper", y, 5, NONE, 0, NONE, 2, 3, 3);
  }

  /** All SAFEs of a run of one round go over chosen links, one each way: the links, two ends each, lesser first. */
  private static void safesOver(PulseNet x, int... ends) {
    int[] seen = new int[ends.length / 2];
    while (x.count(2) > 0) {
      if (x.letter(0, 0) == SAFE) {
        int a = Math.min(x.letter(0, 1), x.letter(0, 2));
        int b = Math.max(x.letter(0, 1), x.letter(0, 2));
        int link = 0;
        while (link < seen.length && (ends[2 * link] != a || ends[2 * link + 1] != b)) {
          link++;
        }
        due("a SAFE between " + a + " and " + b, link < seen.length ? 1 : 0, 1);
        if (link < seen.length) {
          seen[link]++;
        }
      }
      x.come(0);
    }
    for (int many : seen) {
      due("SAFEs over a chosen link", many, 2);
    }
    counts(x, 7, 1);
  }

  /** Clusters 0, 3, 4 and 1, 2, 5: of the links 3 - 5 and 2 - 4 the second has the lesser end, in the second cluster. */
  private static void chosenLesserEndInEither() {
    about("promise 13, CLUSTERS: the chosen link is that with the least lesser end");
    PulseNet x = net(6, 0, 3, 1, 0, 4, 1, 1, 2, 1, 1, 5, 1, 3, 5, 1, 2, 4, 1);
    x.start(WAVES, CLUSTERS, 0, 3, 1);
    all("leader", x, 6, 0, 1, 1, 0, 0, 1);
    counts(x, 8, 2, 1);
    safesOver(x, 2, 4);
  }

  /** Clusters 0, 1, 2 and 3, 4, 5: of the links 2 - 5 and 2 - 4 the second has the lesser greater end. */
  private static void chosenGreaterEnd() {
    about("promise 13, CLUSTERS: of these the one with the least greater end");
    PulseNet x = net(6, 0, 1, 1, 0, 2, 1, 2, 5, 1, 2, 4, 1, 3, 5, 1, 3, 4, 1);
    x.start(WAVES, CLUSTERS, 0, 3, 1);
    all("leader", x, 6, 0, 0, 0, 3, 3, 3);
    counts(x, 8, 2, 1);
    safesOver(x, 2, 4);
    PulseNet y = full(5);
    y.start(WAVES, CLUSTERS, 0, 6, 1);
    counts(y, 8, 5, 10);
    safesOver(y, 0, 1, 0, 2, 0, 3, 0, 4, 1, 2, 1, 3, 1, 4, 2, 3, 2, 4, 3, 4);
  }

  /** With K 3 the clusters are 0, 1 and 2, 3, 4 with leader 2, in which all links end. */
  private static void safesInOrder() {
    about("promise 6, CLUSTERS: FIRM to each in order, then a SAFE over each chosen link, by the other ends' order");
    PulseNet x = net(5, 2, 4, 1, 2, 3, 1, 2, 1, 1, 2, 0, 1);
    due("start", x.start(WAVES, CLUSTERS, 0, 3, 1), 4);
    all("leader", x, 6, 0, 1, 2, 2, 2);
    counts(x, 8, 3, 2);
    pool(x, NOTE, 0, 2, 1, 1, SAFE, 1, 2, 1, 0, READY, 3, 2, 1, 0, READY, 4, 2, 1, 0);
    comes(x, 3, READY, 2, READY);
    pool(x, NOTE, 0, 2, 1, 1, SAFE, 1, 2, 1, 0, FIRM, 2, 3, 1, 0, FIRM, 2, 4, 1, 0, SAFE, 2, 0, 1, 0,
        SAFE, 2, 1, 1, 0);
    finish(x, 7);
    PulseNet y = star(4);
    due("start", y.start(WAVES, CLUSTERS, 3, 5, 1), 6);
    counts(y, 8, 4, 3);
    pool(y, SAFE, 0, 1, 1, 0, SAFE, 0, 2, 1, 0, SAFE, 0, 3, 1, 0, SAFE, 1, 0, 1, 0, SAFE, 2, 0, 1, 0,
        NOTE, 3, 0, 1, 1);
  }

  // Round R

  private static void lastRound() {
    about("promise 13, R of 1: what keeps step is still sent, but nothing begins");
    PulseNet x = line(2);
    int[] others = {3, 2, 4};
    for (int way = ALL; way <= CLUSTERS; way++) {
      due("start", x.start(WAVES, way, 0, 2, 1), 2);
      finish(x, 1);
      counts(x, 3, 1, others[way], 1, 1);
      behind(x, 1, 0, NONE);
      due("no round 2", x.past(0, 2), BAD);
    }
  }

  /** Each round but the last ends with a GO over the one link of the tree: R - 1 of them. */
  private static void nothingBeginsBehindLastRound() {
    about("promise 13, behind round R nothing begins");
    PulseNet x = line(2);
    for (int rounds : new int[] {2, 3, 19, 20}) {
      x.start(WAVES, ALL, 0, 2, rounds);
      finish(x, 1);
      counts(x, 3, 2, 2 + 2 * rounds, rounds, rounds);
      x.start(WAVES, TREE, 0, 2, rounds);
      finish(x, 1);
      counts(x, 3, 2, 2 + rounds + rounds - 1, rounds, rounds);
      x.start(WAVES, CLUSTERS, 0, 2, rounds);
      finish(x, 1);
      counts(x, 3, 2, 2 + 3 * rounds + rounds - 1, rounds, rounds);
    }
  }
}
