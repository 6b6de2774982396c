import java.util.ArrayList;
import java.util.HashMap;
import java.util.HashSet;
import java.util.List;
import java.util.Map;
import java.util.Random;
import java.util.Set;
import java.util.TreeSet;

/** Random runs of calls, each answer held against a second reading of the document, written with sets and maps. */
public final class ModelTest {
  private static final int RUNS = 800, CALLS = 510;
  private static int wrong = 0;

  public static void main(String[] args) {
    for (int run = 0; run < RUNS && wrong < 20; run++) {
      new Driver(run).play();
    }
    System.out.println(wrong == 0 ? "all answers are as the model's" : wrong + " answers are not as the model's");
    if (wrong != 0) {
      System.exit(1);
    }
  }

  /** In which order letters come: any, the last first, or some of them as late as there are others. */
  private static final class Order {
    final Random random;
    final Model model;
    final int way;
    final int late;

    Order(Random random, Model model) {
      this.random = random;
      this.model = model;
      this.way = random.nextInt(7);
      this.late = random.nextInt(way == 4 ? 7 : model.n);
    }

    int next() {
      int waits = model.size();
      if (waits == 0) {
        return 0;
      }
      if (way < 2) {
        return way == 0 ? waits - 1 : random.nextInt(waits);
      }
      List<Integer> early = new ArrayList<>();
      for (int i = 0; i < waits; i++) {
        if (!isLate(model.pool.get(i))) {
          early.add(i);
        }
      }
      return early.isEmpty() ? random.nextInt(waits) : early.get(random.nextInt(early.size()));
    }

    private boolean isLate(int[] letter) {
      switch (way) {
        case 2: return letter[2] == late;
        case 3: return letter[1] == late;
        case 4: return letter[0] == late;
        case 5: return letter[3] < model.greatest();
        default: return letter[3] > model.least();
      }
    }
  }

  /** One run: calls of the class and of the model side by side. */
  private static final class Driver {
    final int run;
    final Random random;
    final PulseNet net = new PulseNet();
    final Model model = new Model();
    int calls = 0;

    Driver(int run) {
      this.run = run;
      this.random = new Random(run);
    }

    void play() {
      while (calls < CALLS - 100) {
        if (random.nextInt(3) == 0 || calls == 0) {
          build();
        }
        disturb(6);
        startOne();
        int turns = 5 + random.nextInt(60);
        Order order = new Order(random, model);
        for (int t = 0; t < turns && calls < CALLS - 40; t++) {
          move(order);
          look(1 + random.nextInt(3));
        }
        look(10);
        if (random.nextInt(3) == 0) {
          disturb(3);
        }
      }
      look(CALLS - calls);
    }

    void build() {
      int n = random.nextInt(8) == 0 ? 1 + random.nextInt(2) : 2 + random.nextInt(11);
      begin(n);
      int[] names = shuffled(n);
      for (int i = 1; i < n; i++) {
        if (random.nextInt(60) != 0) {
          link(names[i], names[random.nextInt(i)], 1 + random.nextInt(9));
        }
      }
      int more = random.nextInt(3) == 0 ? random.nextInt(60) : random.nextInt(8);
      for (int i = 0; i < more && n > 1; i++) {
        link(random.nextInt(n), random.nextInt(n), 1 + random.nextInt(9));
      }
      int most = random.nextBoolean() ? 100 : 3;
      for (int i = 0; i < n; i++) {
        if (random.nextInt(5) != 0) {
          mark(i, random.nextInt(most));
        }
      }
    }

    int[] shuffled(int n) {
      int[] names = new int[n];
      for (int i = 0; i < n; i++) {
        int j = random.nextInt(i + 1);
        names[i] = names[j];
        names[j] = i;
      }
      return names;
    }

    void disturb(int oneIn) {
      if (random.nextInt(oneIn) != 0) {
        return;
      }
      switch (random.nextInt(4)) {
        case 0: begin(pick(new int[] {-1, 0, 13, 14, Integer.MAX_VALUE, Integer.MIN_VALUE})); break;
        case 1: link(random.nextInt(15) - 1, random.nextInt(15) - 1, random.nextInt(12) - 1); break;
        case 2: mark(random.nextInt(15) - 1, random.nextInt(104) - 2); break;
        default: start(random.nextInt(6) - 1, random.nextInt(5) - 1, random.nextInt(15) - 1,
            random.nextInt(11), random.nextInt(24) - 1); break;
      }
      look(2);
    }

    void startOne() {
      start(random.nextInt(4), random.nextInt(3), random.nextInt(model.n), 2 + random.nextInt(7),
          1 + random.nextInt(random.nextBoolean() ? 20 : 5));
    }

    void move(Order order) {
      int waits = model.size();
      switch (random.nextInt(6)) {
        case 0: flow(random.nextInt(40), random.nextInt(Integer.MAX_VALUE)); break;
        case 1: flow(pick(new int[] {0, 3000, 500, -1, 3001}), pick(new int[] {0, 1, 77, Integer.MAX_VALUE, -1, 5})); break;
        case 2: come(pick(new int[] {-1, waits, waits + 1, 0, Integer.MIN_VALUE, Integer.MAX_VALUE})); break;
        default: come(order.next()); break;
      }
    }

    void look(int many) {
      for (int i = 0; i < many && calls < CALLS; i++) {
        int node = random.nextInt(20) == 0 ? random.nextInt(20) - 4 : random.nextInt(model.n);
        int r = random.nextInt(24) - 1;
        switch (random.nextInt(6)) {
          case 0: told(node, random.nextInt(10) - 1); break;
          case 1: past(node, r); break;
          case 2: inStep(node, r); break;
          case 3: differ(); break;
          case 4: letter(random.nextInt(model.size() + 2) - 1, random.nextInt(7) - 1); break;
          default: count(random.nextInt(12) - 1); break;
        }
      }
    }

    int pick(int[] some) {
      return some[random.nextInt(some.length)];
    }

    void due(String call, int got, int want) {
      calls++;
      if (got != want) {
        wrong++;
        System.out.println("run " + run + ", call " + calls + ": " + call + " answered " + got + ", due is " + want);
      }
    }

    void begin(int n) { due("begin " + n, net.begin(n), model.begin(n)); }
    void link(int a, int b, int l) { due("link " + a + " " + b + " " + l, net.link(a, b, l), model.link(a, b, l)); }
    void mark(int i, int v) { due("mark " + i + " " + v, net.mark(i, v), model.mark(i, v)); }
    void start(int p, int w, int s, int k, int r) {
      due("start " + p + " " + w + " " + s + " " + k + " " + r, net.start(p, w, s, k, r), model.start(p, w, s, k, r));
    }
    void come(int i) { due("come " + i, net.come(i), model.come(i)); }
    void flow(int m, int s) { due("flow " + m + " " + s, net.flow(m, s), model.flow(m, s)); }
    void told(int i, int w) { due("told " + i + " " + w, net.told(i, w), model.told(i, w)); }
    void past(int i, int r) { due("past " + i + " " + r, net.past(i, r), model.past(i, r)); }
    void inStep(int i, int r) { due("inStep " + i + " " + r, net.inStep(i, r), model.inStep(i, r)); }
    void differ() { due("differ", net.differ(), model.differ()); }
    void letter(int i, int w) { due("letter " + i + " " + w, net.letter(i, w), model.letter(i, w)); }
    void count(int w) { due("count " + w, net.count(w), model.count(w)); }
  }

  /** The document again: what was heard and said is kept for ever, and each rule looks it up there. */
  private static final class Model {
    static final int NOTE = 0, ACK = 1, SAFE = 2, READY = 3, GO = 4, FIRM = 5, DONE = 6;
    int n = 1;
    final int[][] len = new int[12][12];
    final int[] marks = new int[12];
    boolean on = false;
    int program, way, source, k, rounds;
    List<int[]> pool = new ArrayList<>();
    final Map<List<Integer>, Integer> heard = new HashMap<>();
    final Set<List<Integer>> said = new HashSet<>();
    final int[] round = new int[12], parent = new int[12], upper = new int[12], leader = new int[12];
    final int[][] history = new int[12][21];
    final List<int[]> chosen = new ArrayList<>();
    int[] sent = new int[7];

    int size() { return on ? pool.size() : 0; }

    int greatest() { return java.util.Arrays.stream(round, 0, n).max().orElse(0); }

    int least() { return java.util.Arrays.stream(round, 0, n).min().orElse(0); }

    boolean node(int i) { return i >= 0 && i < n; }

    int begin(int many) {
      if (many < 1 || many > 12) {
        return -1;
      }
      n = many;
      for (int i = 0; i < 12; i++) {
        marks[i] = 0;
        len[i] = new int[12];
      }
      on = false;
      return 0;
    }

    int links() {
      int all = 0;
      for (int a = 0; a < n; a++) {
        for (int b : near(a)) {
          all += a < b ? 1 : 0;
        }
      }
      return all;
    }

    int link(int a, int b, int l) {
      if (!node(a) || !node(b) || a == b || l < 1 || l > 9) {
        return -1;
      }
      len[a][b] = l;
      len[b][a] = l;
      on = false;
      return links();
    }

    int mark(int i, int v) {
      if (!node(i) || v < 0 || v > 99) {
        return -1;
      }
      int was = marks[i];
      marks[i] = v;
      on = false;
      return was;
    }

    TreeSet<Integer> near(int i) {
      TreeSet<Integer> found = new TreeSet<>();
      for (int j = 0; j < n; j++) {
        if (len[i][j] > 0) {
          found.add(j);
        }
      }
      return found;
    }

    /** How many links from a node, within a set: 99 if there is no way. */
    int[] hops(int root, Set<Integer> set) {
      int[] far = new int[12];
      java.util.Arrays.fill(far, 99);
      far[root] = 0;
      for (int turn = 0; turn < n; turn++) {
        for (int a : set) {
          for (int b : near(a)) {
            if (set.contains(b)) {
              far[a] = Math.min(far[a], far[b] + 1);
            }
          }
        }
      }
      return far;
    }

    Set<Integer> everyone() {
      Set<Integer> all = new TreeSet<>();
      for (int i = 0; i < n; i++) {
        all.add(i);
      }
      return all;
    }

    int start(int p, int w, int s, int newK, int r) {
      boolean bad = p < 0 || p > 3 || w < 0 || w > 2 || !node(s) || r < 1 || r > 20 || w == 2 && (newK < 2 || newK > 8);
      if (bad) {
        return -1;
      }
      int[] far = hops(0, everyone());
      for (int i = 0; i < n; i++) {
        if (far[i] == 99) {
          return -1;
        }
      }
      program = p; way = w; source = s; k = newK; rounds = r;
      on = true;
      pool = new ArrayList<>();
      heard.clear();
      said.clear();
      sent = new int[7];
      frame();
      for (int i = 0; i < n; i++) {
        round[i] = 0;
        parent[i] = -2;
        history[i][0] = inStep(i, 0);
      }
      for (int i = 0; i < n; i++) {
        beginRound(i);
        settle(i);
      }
      return pool.size();
    }

    void frame() {
      chosen.clear();
      for (int i = 0; i < n; i++) {
        upper[i] = -2;
        leader[i] = way == 0 ? i : way == 1 ? source : -2;
      }
      if (way == 1) {
        tree(source, everyone());
      }
      for (int i = 0; i < n && way == 2; i++) {
        if (leader[i] == -2) {
          cluster(i);
        }
      }
      Set<List<Integer>> pairs = new HashSet<>();
      for (int a = 0; a < n && way == 2; a++) {
        for (int b : near(a).tailSet(a)) {
          List<Integer> pair = List.of(Math.min(leader[a], leader[b]), Math.max(leader[a], leader[b]));
          if (leader[a] != leader[b] && pairs.add(pair)) {
            chosen.add(new int[] {a, b});
          }
        }
      }
    }

    void cluster(int first) {
      Set<Integer> set = new TreeSet<>(List.of(first));
      while (true) {
        Set<Integer> fresh = new TreeSet<>();
        for (int a : set) {
          for (int b : near(a)) {
            if (leader[b] == -2 && !set.contains(b)) {
              fresh.add(b);
            }
          }
        }
        if (fresh.isEmpty() || fresh.size() < (k - 1) * set.size()) {
          break;
        }
        set.addAll(fresh);
      }
      for (int a : set) {
        leader[a] = first;
      }
      tree(first, set);
    }

    void tree(int root, Set<Integer> set) {
      int[] far = hops(root, set);
      for (int a : set) {
        for (int b : near(a).descendingSet()) {
          if (set.contains(b) && far[b] == far[a] - 1) {
            upper[a] = b;
          }
        }
      }
    }

    TreeSet<Integer> below(int i) {
      TreeSet<Integer> found = new TreeSet<>();
      for (int j = 0; j < n; j++) {
        if (upper[j] == i) {
          found.add(j);
        }
      }
      return found;
    }

    TreeSet<Integer> otherEnds(int i) {
      TreeSet<Integer> found = new TreeSet<>();
      for (int[] c : chosen) {
        if (c[0] == i) {
          found.add(c[1]);
        }
        if (c[1] == i) {
          found.add(c[0]);
        }
      }
      return found;
    }

    void send(int kind, int from, int to, int r, int number) {
      pool.add(new int[] {kind, from, to, r, number});
      sent[kind]++;
    }

    boolean heardAll(int kind, Set<Integer> from, int to, int r) {
      for (int f : from) {
        if (!heard.containsKey(List.of(kind, f, to, r))) {
          return false;
        }
      }
      return true;
    }

    int unanswered(int i) {
      int open = 0;
      for (int to : near(i)) {
        if (said.contains(List.of(NOTE, i, round[i])) && !heard.containsKey(List.of(ACK, to, i, round[i]))) {
          open++;
        }
      }
      return open;
    }

    void beginRound(int i) {
      int r = ++round[i];
      if (r > 1) {
        for (int to : below(i)) {
          send(GO, i, to, r, 0);
        }
      }
      history[i][r] = history[i][r - 1];
      Map<Integer, Integer> taken = new java.util.TreeMap<>();
      for (int f : near(i)) {
        Integer number = heard.get(List.of(NOTE, f, i, r - 1));
        if (number != null) {
          taken.put(f, program == 3 ? number + len[i][f] : number);
        }
      }
      Integer note = work(i, r, taken);
      if (note != null) {
        said.add(List.of(NOTE, i, r));
        for (int to : near(i)) {
          send(NOTE, i, to, r, note);
        }
      }
    }

    void become(int i, int r, int value, Map<Integer, Integer> taken, int number) {
      history[i][r] = value;
      for (int f : near(i).descendingSet()) {
        if (taken.containsKey(f) && taken.get(f) == number) {
          parent[i] = f;
        }
      }
    }

    Integer work(int i, int r, Map<Integer, Integer> taken) {
      int now = history[i][r];
      if (program == 2) {
        return workChoice(i, r, taken, now);
      }
      if (r == 1) {
        return program == 1 ? Integer.valueOf(marks[i]) : i != source ? null : Integer.valueOf(program == 0 ? 1 : 0);
      }
      if (taken.isEmpty()) {
        return null;
      }
      int best = program == 1 ? java.util.Collections.max(taken.values()) : java.util.Collections.min(taken.values());
      boolean changes = program == 1 ? best > now : now == -2 || program == 3 && best < now;
      if (!changes) {
        return null;
      }
      become(i, r, best, taken, best);
      return program == 0 ? best + 1 : best;
    }

    Integer workChoice(int i, int r, Map<Integer, Integer> taken, int now) {
      if (now != 0) {
        return null;
      }
      if (r % 2 == 1) {
        if (taken.containsValue(-1)) {
          become(i, r, 2, taken, -1);
          return null;
        }
        return marks[i];
      }
      for (Map.Entry<Integer, Integer> t : taken.entrySet()) {
        if (t.getValue() > marks[i] || t.getValue() == marks[i] && t.getKey() > i) {
          return null;
        }
      }
      history[i][r] = 1;
      return -1;
    }

    /** Applies the rules for keeping step to a node until none applies any more. */
    void settle(int i) {
      while (applyOne(i)) {
        continue;
      }
    }

    boolean applyOne(int i) {
      int r = round[i];
      boolean safe = unanswered(i) == 0;
      if (way == 0) {
        if (safe && said.add(List.of(SAFE, i, r))) {
          for (int to : near(i)) {
            send(SAFE, i, to, r, 0);
          }
          return true;
        }
        return safe && heardAll(SAFE, near(i), i, r) && next(i, r);
      }
      boolean ready = safe && heardAll(READY, below(i), i, r);
      if (ready && upper[i] != -2 && said.add(List.of(READY, i, r))) {
        send(READY, i, upper[i], r, 0);
        return true;
      }
      if (way == 1) {
        return ready && upper[i] == -2 && next(i, r);
      }
      boolean firm = upper[i] == -2 ? ready : heardAll(FIRM, Set.of(upper[i]), i, r);
      if (firm && said.add(List.of(FIRM, i, r))) {
        for (int to : below(i)) {
          send(FIRM, i, to, r, 0);
        }
        for (int to : otherEnds(i)) {
          send(SAFE, i, to, r, 0);
        }
        return true;
      }
      boolean done = firm && heardAll(SAFE, otherEnds(i), i, r) && heardAll(DONE, below(i), i, r);
      if (done && upper[i] != -2 && said.add(List.of(DONE, i, r))) {
        send(DONE, i, upper[i], r, 0);
        return true;
      }
      return done && upper[i] == -2 && next(i, r);
    }

    boolean next(int i, int r) {
      if (r >= rounds) {
        return false;
      }
      beginRound(i);
      return true;
    }

    int come(int i) {
      if (i < 0 || i >= size()) {
        return -1;
      }
      int[] l = pool.remove(i);
      heard.put(List.of(l[0], l[1], l[2], l[3]), l[4]);
      if (l[0] == NOTE) {
        send(ACK, l[2], l[1], l[3], 0);
      }
      if (l[0] == GO) {
        beginRound(l[2]);
      }
      settle(l[2]);
      return l[0];
    }

    int flow(int many, int seed) {
      if (many < 0 || many > 3000 || seed < 0) {
        return -1;
      }
      java.math.BigInteger s = java.math.BigInteger.valueOf(seed);
      int came = 0;
      while (came < many && size() > 0) {
        come(s.mod(java.math.BigInteger.valueOf(size())).intValue());
        s = s.multiply(java.math.BigInteger.valueOf(69069)).add(java.math.BigInteger.ONE)
            .mod(java.math.BigInteger.TWO.pow(31));
        came++;
      }
      return came;
    }

    int told(int i, int what) {
      if (!node(i) || what < 0 || what > 7 || !on && what != 7) {
        return -1;
      }
      int[] answers = {round[i], history[i][round[i]], parent[i], on ? unanswered(i) : 0,
          on && unanswered(i) == 0 ? 1 : 0, upper[i], leader[i], near(i).size()};
      return answers[what];
    }

    int past(int i, int r) {
      if (!on || !node(i) || r < 0 || r > rounds) {
        return -1;
      }
      return r > round[i] ? -3 : history[i][r];
    }

    /** WAVES, GREATEST and LENGTHS by what lies at most r - 1 links away, CHOICE by going in step. */
    int inStep(int i, int r) {
      if (!on || !node(i) || r < 0 || r > rounds) {
        return -1;
      }
      int links = Math.max(0, r - 1);
      if (program == 2) {
        return choiceInStep(r)[i];
      }
      if (program == 3) {
        return lengthInStep(i, links);
      }
      int[] far = hops(program == 0 ? source : i, everyone());
      if (program == 0) {
        return far[i] <= links ? far[i] : -2;
      }
      int best = 0;
      for (int j = 0; j < n; j++) {
        best = far[j] <= links ? Math.max(best, marks[j]) : best;
      }
      return best;
    }

    int lengthInStep(int i, int links) {
      int[] d = new int[12];
      java.util.Arrays.fill(d, 9999);
      d[source] = 0;
      for (int turn = 0; turn < links; turn++) {
        int[] e = d.clone();
        for (int a = 0; a < n; a++) {
          for (int b : near(a)) {
            e[a] = Math.min(e[a], d[b] + len[a][b]);
          }
        }
        d = e;
      }
      return d[i] >= 9999 ? -2 : d[i];
    }

    /** Each two rounds: those open that beat all open neighbours are in, and in the next round their neighbours out. */
    int[] choiceInStep(int r) {
      int[] state = new int[12];
      for (int now = 2; now <= r; now++) {
        int[] next = state.clone();
        for (int a = 0; a < n; a++) {
          boolean in = false, beaten = false;
          for (int b : near(a)) {
            in |= state[b] == 1;
            beaten |= state[b] == 0 && (marks[b] > marks[a] || marks[b] == marks[a] && b > a);
          }
          if (state[a] == 0 && now % 2 == 1 && in) {
            next[a] = 2;
          }
          if (state[a] == 0 && now % 2 == 0 && !beaten) {
            next[a] = 1;
          }
        }
        state = next;
      }
      return state;
    }

    int differ() {
      if (!on) {
        return -1;
      }
      int other = 0;
      for (int i = 0; i < n; i++) {
        for (int r = 0; r <= round[i]; r++) {
          other += history[i][r] == inStep(i, r) ? 0 : 1;
        }
      }
      return other;
    }

    int letter(int i, int what) {
      return i < 0 || i >= size() || what < 0 || what > 4 ? -1 : pool.get(i)[what];
    }

    int count(int what) {
      if (what < 0 || what > 9 || !on && what > 1) {
        return -1;
      }
      int least = 99, most = 0, others = 0;
      Set<Integer> leaders = new HashSet<>();
      for (int i = 0; i < n; i++) {
        least = Math.min(least, round[i]);
        most = Math.max(most, round[i]);
        leaders.add(leader[i]);
      }
      for (int kind = 1; kind < 7; kind++) {
        others += sent[kind];
      }
      int[] answers = {n, links(), size(), sent[0], others, least, most,
          least == rounds && size() == 0 ? 1 : 0, way == 2 ? leaders.size() : 1, chosen.size()};
      return answers[what];
    }
  }
}
