import java.util.ArrayList;
import java.util.List;

/** The document once more, told the slow way: each question is answered by trying it out. */
final class Model {
  private final List<List<Integer>> quay = new ArrayList<>();
  private final List<Integer> weights = new ArrayList<>();
  private final List<Integer> broken = new ArrayList<>();
  private final List<int[]> cranes = new ArrayList<>();
  private int ticks;

  private static final int PLACE = 0;
  private static final int REACH = 1;
  private static final int DRUM = 2;
  private static final int WALKERS = 3;
  private static final int WORN = 4;
  private static final int OVER = 5;
  private static final int HEIGHT = 6;
  private static final int LOAD = 7;

  Model() {
    for (int i = 0; i < 16; i++) {
      quay.add(new ArrayList<>());
    }
  }

  /** The same quay with this crane alone. */
  private Model(Model other, int crane) {
    for (List<Integer> stack : other.quay) {
      quay.add(new ArrayList<>(stack));
    }
    weights.addAll(other.weights);
    broken.addAll(other.broken);
    cranes.add(other.cranes.get(crane).clone());
  }

  /** The answer, or the name of the exception, as Check.answer has it. */
  String answer(String name, int a, int b, int c, int d) {
    return Check.answer(() -> switch (name) {
      case "land" -> land(a, b);
      case "build" -> build(a, b, c, d);
      case "man" -> man(a, b);
      case "mend" -> mend(a);
      case "turn" -> turn(a, b);
      case "hoist" -> hoist(a, b);
      case "take" -> take(a);
      case "lay" -> lay(a);
      case "place" -> place(a, b);
      case "barrel" -> barrel(a, b);
      case "crane" -> crane(a, b);
      case "count" -> count(a);
      case "move" -> move(a, b, c);
      case "best" -> best(a, b);
      case "lasts" -> lasts(a, b);
      case "within" -> within(a);
      case "mean" -> Double.doubleToLongBits(mean());
      default -> digest();
    });
  }

  private void bounds(boolean fine) {
    if (!fine) {
      throw new IndexOutOfBoundsException();
    }
  }

  private void argument(boolean fine) {
    if (!fine) {
      throw new IllegalArgumentException();
    }
  }

  private void state(boolean fine) {
    if (!fine) {
      throw new IllegalStateException();
    }
  }

  private boolean in(int x, int low, int high) {
    return low <= x && x <= high;
  }

  private int[] existing(int crane) {
    bounds(in(crane, 0, cranes.size() - 1));
    return cranes.get(crane);
  }

  private int high(int place) {
    return quay.get(place).size();
  }

  private boolean highEnough(int[] crane, int hook, int placeHeight) {
    int bottom = crane[LOAD] < 0 ? hook : hook - 1;
    return bottom >= placeHeight;
  }

  /** Is each hook high enough for its place, that of one crane left out? */
  private boolean allFine(int except) {
    boolean fine = true;
    for (int i = 0; i < cranes.size(); i++) {
      int[] c = cranes.get(i);
      fine &= i == except || highEnough(c, c[HEIGHT], high(c[OVER]));
    }
    return fine;
  }

  private boolean lifts(int[] crane, int weight) {
    return weight <= 12 * crane[WALKERS] / crane[DRUM];
  }

  private int winding(int[] crane, int way) {
    int needed = 0;
    for (int left = way; left > 0; left -= crane[DRUM]) {
      needed++;
    }
    return needed;
  }

  private int land(int place, int weight) {
    bounds(in(place, 0, 15));
    argument(in(weight, 1, 60));
    state(weights.size() < 40 && high(place) < 8);
    quay.get(place).add(weights.size());
    boolean fine = allFine(-1);
    if (!fine) {
      quay.get(place).remove(high(place) - 1);
    }
    state(fine);
    weights.add(weight);
    return weights.size() - 1;
  }

  private int build(int place, int reach, int drum, int walkers) {
    bounds(in(place, 0, 15));
    argument(in(reach, 1, 15) && in(drum, 1, 6) && in(walkers, 0, 8));
    state(cranes.size() < 5);
    cranes.add(new int[] {place, reach, drum, walkers, 0, place, 10, -1});
    return cranes.size() - 1;
  }

  private int man(int crane, int walkers) {
    int[] c = existing(crane);
    argument(in(walkers, 0, 8));
    int before = c[WALKERS];
    c[WALKERS] = walkers;
    return before;
  }

  private int mend(int crane) {
    int[] c = existing(crane);
    int before = c[WORN];
    c[WORN] = 0;
    return before;
  }

  private int turn(int crane, int place) {
    int[] c = existing(crane);
    bounds(in(place, 0, 15));
    state(in(place - c[PLACE], -c[REACH], c[REACH]));
    int step = place < c[OVER] ? -1 : 1;
    int needed = 0;
    for (int p = c[OVER]; p != place; p += step) {
      state(highEnough(c, c[HEIGHT], high(p)));
      needed++;
    }
    state(highEnough(c, c[HEIGHT], high(place)));
    c[OVER] = place;
    ticks += needed;
    return needed;
  }

  private int hoist(int crane, int height) {
    int[] c = existing(crane);
    argument(in(height, 0, 20));
    state(highEnough(c, height, high(c[OVER])));
    state(height <= c[HEIGHT] || c[LOAD] < 0 || lifts(c, weights.get(c[LOAD])));
    int needed = winding(c, Math.abs(height - c[HEIGHT]));
    if (height < c[HEIGHT] && c[LOAD] >= 0) {
      int worn = c[WORN];
      for (int i = 0; i < needed; i++) {
        worn += weights.get(c[LOAD]) / 20 + 1;
      }
      if (worn > 99) {
        broken.add(c[LOAD]);
        c[LOAD] = -1;
        c[WORN] = 99;
        return -1;
      }
      c[WORN] = worn;
    }
    c[HEIGHT] = height;
    ticks += needed;
    return needed;
  }

  private int take(int crane) {
    int[] c = existing(crane);
    state(c[LOAD] < 0 && high(c[OVER]) > 0 && c[HEIGHT] == high(c[OVER]));
    c[LOAD] = quay.get(c[OVER]).remove(high(c[OVER]) - 1);
    return c[LOAD];
  }

  private int lay(int crane) {
    int[] c = existing(crane);
    state(c[LOAD] >= 0 && c[HEIGHT] == high(c[OVER]) + 1 && high(c[OVER]) < 8);
    quay.get(c[OVER]).add(c[LOAD]);
    boolean fine = allFine(crane);
    if (!fine) {
      quay.get(c[OVER]).remove(high(c[OVER]) - 1);
    }
    state(fine);
    c[LOAD] = -1;
    return high(c[OVER]);
  }

  int place(int place, int what) {
    bounds(in(place, 0, 15) && in(what, 0, 3));
    List<Integer> stack = quay.get(place);
    return switch (what) {
      case 0 -> stack.size();
      case 1 -> stack.isEmpty() ? -1 : stack.get(stack.size() - 1);
      case 2 -> stack.stream().mapToInt(weights::get).sum();
      default -> (int) cranes.stream().filter(c -> c[OVER] == place).count();
    };
  }

  private int barrel(int barrel, int what) {
    bounds(in(barrel, 0, weights.size() - 1) && in(what, 0, 4));
    int place = -1;
    for (int p = 0; p < 16; p++) {
      place = quay.get(p).contains(barrel) ? p : place;
    }
    int crane = -1;
    for (int i = 0; i < cranes.size(); i++) {
      crane = cranes.get(i)[LOAD] == barrel ? i : crane;
    }
    return switch (what) {
      case 0 -> weights.get(barrel);
      case 1 -> place;
      case 2 -> place < 0 ? 0 : high(place) - 1 - quay.get(place).indexOf(barrel);
      case 3 -> crane;
      default -> broken.contains(barrel) ? 1 : 0;
    };
  }

  int crane(int crane, int what) {
    int[] c = existing(crane);
    bounds(in(what, 0, 8));
    return what < 8 ? c[what] : 12 * c[WALKERS] / c[DRUM];
  }

  int count(int what) {
    bounds(in(what, 0, 6));
    return switch (what) {
      case 0 -> ticks;
      case 1 -> weights.size();
      case 2 -> quay.stream().mapToInt(List::size).sum();
      case 3 -> (int) cranes.stream().filter(c -> c[LOAD] >= 0).count();
      case 4 -> broken.size();
      case 5 -> cranes.size();
      default -> quay.stream().mapToInt(List::size).max().getAsInt();
    };
  }

  private int move(int crane, int from, int to) {
    int[] c = existing(crane);
    bounds(in(from, 0, 15) && in(to, 0, 15));
    if (c[LOAD] >= 0 || from == to || high(from) == 0 || high(to) == 8) {
      return -1;
    }
    if (!lifts(c, weights.get(quay.get(from).get(high(from) - 1)))) {
      return -1;
    }
    for (int place : new int[] {from, to}) {
      if (Math.abs(place - c[PLACE]) > c[REACH]) {
        return -1;
      }
    }
    return new Model(this, crane).triedOut(from, to);
  }

  private int triedOut(int from, int to) {
    raiseToTurn(from);
    turn(0, from);
    hoist(0, high(from));
    take(0);
    raiseToTurn(to);
    turn(0, to);
    if (hoist(0, high(to) + 1) < 0) {
      return -1;
    }
    lay(0);
    return ticks;
  }

  /** Goes to the first height, from here on up, from which the hook can turn to the place. */
  private void raiseToTurn(int place) {
    int[] c = cranes.get(0);
    for (int height = c[HEIGHT]; height <= 20; height++) {
      Model tried = new Model(this, 0);
      tried.cranes.get(0)[HEIGHT] = height;
      if (!Check.answer(() -> tried.turn(0, place)).contains("Exception")) {
        hoist(0, height);
        return;
      }
    }
    throw new AssertionError("no height is enough");
  }

  private int best(int from, int to) {
    bounds(in(from, 0, 15) && in(to, 0, 15));
    for (int needed = 0; needed < 1000; needed++) {
      for (int i = 0; i < cranes.size(); i++) {
        if (move(i, from, to) == needed) {
          return i;
        }
      }
    }
    return -1;
  }

  private int lasts(int crane, int weight) {
    int[] c = existing(crane);
    argument(in(weight, 1, 60));
    int lasting = 0;
    for (int worn = c[WORN] + weight / 20 + 1; worn <= 99; worn += weight / 20 + 1) {
      lasting++;
    }
    return lasting;
  }

  private int within(int crane) {
    int[] c = existing(crane);
    int fetched = 0;
    for (int place = 0; place < 16; place++) {
      for (int barrel : quay.get(place)) {
        if (in(place, c[PLACE] - c[REACH], c[PLACE] + c[REACH]) && lifts(c, weights.get(barrel))) {
          fetched++;
        }
      }
    }
    return fetched;
  }

  private double mean() {
    double sum = 0;
    int whole = 0;
    for (int i = 0; i < weights.size(); i++) {
      if (!broken.contains(i)) {
        sum += weights.get(i);
        whole++;
      }
    }
    return whole == 0 ? 0 : sum / whole;
  }

  private long digest() {
    List<Integer> told = new ArrayList<>();
    for (int what = 0; what < 7; what++) {
      told.add(count(what));
    }
    for (int i = 0; i < 64; i++) {
      told.add(place(i / 4, i % 4));
    }
    for (int i = 0; i < weights.size() * 5; i++) {
      told.add(barrel(i / 5, i % 5));
    }
    for (int i = 0; i < cranes.size() * 9; i++) {
      told.add(crane(i / 9, i % 9));
    }
    long d = 1151;
    for (int x : told) {
      d = d * 31 + x;
    }
    return d;
  }
}
