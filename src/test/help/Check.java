/** What the tests share: the names of the document, the count of wrong answers, and nets to try things on. */
abstract class Check {
  static final int BAD = -1, NONE = -2, NOT_YET = -3;
  static final int WAVES = 0, GREATEST = 1, CHOICE = 2, LENGTHS = 3;
  static final int ALL = 0, TREE = 1, CLUSTERS = 2;
  static final int NOTE = 0, ACK = 1, SAFE = 2, READY = 3, GO = 4, FIRM = 5, DONE = 6;
  static final int LEAST = Integer.MIN_VALUE, MOST = Integer.MAX_VALUE;
  private static int wrong = 0;
  private static int asked = 0;
  private static String promise = "";

  /** Names the promise (and the sentence of it) that the next answers belong to. */
  static void about(String words) {
    promise = words;
  }

  static void due(String call, int got, int want) {
    asked++;
    if (got != want) {
      wrong++;
      System.out.println(promise + ": " + call + " answered " + got + ", due is " + want);
    }
  }

  static void end() {
    System.out.println(wrong == 0 ? "all " + asked + " answers are as due" : wrong + " answers are not as due");
    if (wrong != 0 || asked == 0) {
      System.exit(1);
    }
  }

  /** A net with the links given as ends and length, three numbers each. */
  static PulseNet net(int n, int... links) {
    PulseNet x = new PulseNet();
    due("begin " + n, x.begin(n), 0);
    for (int i = 0; i + 2 < links.length; i += 3) {
      due("link", x.link(links[i], links[i + 1], links[i + 2]), i / 3 + 1);
    }
    return x;
  }

  static PulseNet line(int n) {
    PulseNet x = net(n);
    for (int i = 1; i < n; i++) {
      x.link(i - 1, i, 1);
    }
    return x;
  }

  /** Node 0 in the middle, all others linked with it alone. */
  static PulseNet star(int n) {
    PulseNet x = net(n);
    for (int i = 1; i < n; i++) {
      x.link(0, i, 1);
    }
    return x;
  }

  static PulseNet full(int n) {
    PulseNet x = net(n);
    for (int a = 0; a < n; a++) {
      for (int b = a + 1; b < n; b++) {
        x.link(a, b, 1);
      }
    }
    return x;
  }

  static void marks(PulseNet x, int... marks) {
    for (int i = 0; i < marks.length; i++) {
      x.mark(i, marks[i]);
    }
  }

  /** What waits: kind, from, to, round and number of each letter, five numbers each. */
  static void pool(PulseNet x, int... want) {
    due("count(2)", x.count(2), want.length / 5);
    for (int i = 0; i < want.length; i++) {
      due("letter(" + i / 5 + ", " + i % 5 + ")", x.letter(i / 5, i % 5), want[i]);
    }
  }

  static void all(String call, PulseNet x, int what, int... want) {
    for (int i = 0; i < want.length; i++) {
      due(call + ", told(" + i + ", " + what + ")", x.told(i, what), want[i]);
    }
  }

  /** The values of all nodes behind round r, done and in step. */
  static void behind(PulseNet x, int r, int... want) {
    for (int i = 0; i < want.length; i++) {
      due("past(" + i + ", " + r + ")", x.past(i, r), want[i]);
      due("inStep(" + i + ", " + r + ")", x.inStep(i, r), want[i]);
    }
  }

  /** Each given letter comes, and is of the kind that stands behind its number. */
  static void comes(PulseNet x, int... letterAndKind) {
    for (int i = 0; i + 1 < letterAndKind.length; i += 2) {
      due("come(" + letterAndKind[i] + ")", x.come(letterAndKind[i]), letterAndKind[i + 1]);
    }
  }

  static void counts(PulseNet x, int from, int... want) {
    for (int i = 0; i < want.length; i++) {
      due("count(" + (from + i) + ")", x.count(from + i), want[i]);
    }
  }

  /** What each call answers where nothing was started. */
  static void nothingStarted(PulseNet x) {
    for (int what = 0; what <= 6; what++) {
      due("nothing started, told(0, " + what + ")", x.told(0, what), BAD);
    }
    for (int r = 0; r <= 1; r++) {
      due("nothing started, past(0, " + r + ")", x.past(0, r), BAD);
      due("nothing started, inStep(0, " + r + ")", x.inStep(0, r), BAD);
    }
    for (int what = 0; what <= 4; what++) {
      due("nothing started, letter(0, " + what + ")", x.letter(0, what), BAD);
    }
    for (int what = 2; what <= 9; what++) {
      due("nothing started, count(" + what + ")", x.count(what), BAD);
    }
    due("nothing started, differ()", x.differ(), BAD);
    due("nothing started, come(0)", x.come(0), BAD);
    due("nothing started, flow(3000, 0)", x.flow(3000, 0), 0);
  }
}
