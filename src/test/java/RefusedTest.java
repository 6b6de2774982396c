import java.util.ArrayList;
import java.util.Arrays;
import java.util.List;

/**
 * Every call with arguments at and beyond all edges, in every state that an object can be in: none of them throws, and
 * one that answers BAD (each promise's grounds for it are in BoundsTest) leaves all that the object tells as it was.
 */
public final class RefusedTest {
  private static final int[] EDGES = {Integer.MIN_VALUE, Integer.MIN_VALUE + 1, -3, -2, -1, 0, 1, 2, 3, 4, 5, 7, 8, 9, 10,
      11, 12, 13, 19, 20, 21, 31, 32, 33, 98, 99, 100, 2999, 3000, 3001, Integer.MAX_VALUE - 1, Integer.MAX_VALUE};
  private static final int[] FEW = {Integer.MIN_VALUE, -1, 0, 1, 2, 3, 8, 9, 12, 20, 21, Integer.MAX_VALUE};
  private static final int STATES = 13;
  private static int wrong = 0;
  private static int refused = 0;

  private interface Call {
    int on(PulseNet x);
  }

  public static void main(String[] args) {
    for (int state = 0; state < STATES; state++) {
      tryAll(state);
    }
    startWithAnything();
    if (refused < STATES * 100) {
      wrong++;
      System.out.println("only " + refused + " calls were refused");
    }
    System.out.println(wrong == 0 ? "all " + refused + " refused calls changed nothing" : wrong + " did not hold");
    if (wrong != 0) {
      System.exit(1);
    }
  }

  /** New; begun; not connected; connected; each way begun, on its way and over; and gone behind a mark. */
  private static PulseNet inState(int state) {
    PulseNet x = new PulseNet();
    if (state == 0) {
      return x;
    }
    x.begin(4);
    if (state == 1) {
      return x;
    }
    x.link(0, 1, 3);
    x.link(2, 1, 9);
    x.mark(2, 99);
    if (state == 2) {
      return x;
    }
    x.link(2, 3, 1);
    x.link(0, 2, 5);
    if (state == 3) {
      return x;
    }
    int stage = (state - 4) / 3;
    x.start(stage == 0 ? 3 : 1, (state - 4) % 3, 1, 3, 4);
    x.flow(stage == 0 ? 0 : stage == 1 ? 23 : 3000, 7);
    if (state == 12) {
      x.mark(1, 50);
    }
    return x;
  }

  /** All that an object tells; the marks are asked last, as that ends what was started. */
  private static List<Integer> told(PulseNet x) {
    List<Integer> all = new ArrayList<>();
    for (int what = 0; what <= 9; what++) {
      all.add(x.count(what));
    }
    for (int node = 0; node < 4; node++) {
      for (int what = 0; what <= 7; what++) {
        all.add(x.told(node, what));
      }
      for (int r = 0; r <= 4; r++) {
        all.add(x.past(node, r));
        all.add(x.inStep(node, r));
      }
    }
    for (int i = 0; i < x.count(2); i++) {
      for (int what = 0; what <= 4; what++) {
        all.add(x.letter(i, what));
      }
    }
    all.add(x.flow(3000, 5));
    all.add(x.differ());
    for (int node = 0; node < 4; node++) {
      all.add(x.mark(node, 0));
    }
    all.add(x.start(3, 0, 0, 2, 4));
    all.add(x.inStep(3, 4));
    return all;
  }

  private static void tryOne(int state, List<Integer> want, String name, Call call) {
    PulseNet x = inState(state);
    if (call.on(x) != PulseNet.BAD) {
      return;
    }
    refused++;
    List<Integer> got = told(x);
    if (!got.equals(want)) {
      wrong++;
      System.out.println("state " + state + ": " + name + " was refused, but it changed " + want + " to " + got);
    }
  }

  private static void tryAll(int state) {
    List<Integer> want = told(inState(state));
    tryOne(state, want, "differ", x -> x.differ());
    for (int a : EDGES) {
      tryOne(state, want, "begin " + a, x -> x.begin(a));
      tryOne(state, want, "come " + a, x -> x.come(a));
      tryOne(state, want, "count " + a, x -> x.count(a));
      for (int b : EDGES) {
        String two = a + " " + b;
        tryOne(state, want, "mark " + two, x -> x.mark(a, b));
        tryOne(state, want, "flow " + two, x -> x.flow(a, b));
        tryOne(state, want, "told " + two, x -> x.told(a, b));
        tryOne(state, want, "past " + two, x -> x.past(a, b));
        tryOne(state, want, "inStep " + two, x -> x.inStep(a, b));
        tryOne(state, want, "letter " + two, x -> x.letter(a, b));
      }
    }
    for (int a : FEW) {
      for (int b : FEW) {
        for (int c : FEW) {
          tryOne(state, want, "link " + a + " " + b + " " + c, x -> x.link(a, b, c));
          tryOne(state, want, "start way 2, " + a + " " + b + " " + c, x -> x.start(a, 2, b, c, 20));
          tryOne(state, want, "start K 2, " + a + " " + b + " " + c, x -> x.start(0, a, b, 2, c));
        }
      }
    }
  }

  /** Any five numbers: BAD unless each of them is one that the document names. */
  private static void startWithAnything() {
    for (int state : new int[] {0, 2, 3}) {
      PulseNet x = inState(state);
      int calls = 10;
      int nodes = state == 0 ? 1 : 4;
      int total = FEW.length * FEW.length * FEW.length * FEW.length * FEW.length;
      for (int i = 0; i < total; i++) {
        int[] p = new int[5];
        for (int j = 0, rest = i; j < 5; j++, rest /= FEW.length) {
          p[j] = FEW[rest % FEW.length];
        }
        boolean good = state != 2 && in(p[0], 0, 3) && in(p[1], 0, 2) && in(p[2], 0, nodes - 1)
            && (p[1] != 2 || in(p[3], 2, 8)) && in(p[4], 1, 20);
        if (x.start(p[0], p[1], p[2], p[3], p[4]) != PulseNet.BAD != good) {
          wrong++;
          System.out.println("state " + state + ", promise 5: start " + Arrays.toString(p) + " should be "
              + (good ? "done" : "refused"));
        }
        if (++calls == 512) {
          x = inState(state);
          calls = 10;
        }
      }
    }
  }

  private static boolean in(int number, int least, int most) {
    return number >= least && number <= most;
  }
}
