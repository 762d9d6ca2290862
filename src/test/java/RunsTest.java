import java.util.HashMap;
import java.util.Map;
import java.util.function.LongSupplier;

/**
 * All promises together: long runs of mixed calls, each answer beside that of the Model. The runs
 * are the same each time.
 */
public final class RunsTest {
  private static final int RUNS = 1500;
  // The digest at the end of a run is the 512th call, the last that is promised.
  private static final int CALLS = 511;
  private static final String[] CALLED = {
    "land", "land", "land", "build", "man", "mend", "turn", "turn", "turn", "turn", "hoist", "hoist",
    "hoist", "hoist", "hoist", "hoist", "take", "take", "take", "take", "lay", "lay", "lay", "lay",
    "place", "barrel", "crane", "count", "move", "move", "best", "lasts", "within", "mean", "digest"
  };

  private static final Map<String, Integer> seen = new HashMap<>();
  private static long state;

  public static void main(String[] args) {
    for (int run = 0; run < RUNS; run++) {
      state = run * 7919L + 17;
      playRun(run);
    }
    for (String name : CALLED) {
      expectSeen(name, "an answer");
    }
    for (String name : new String[] {"land", "build", "turn", "hoist", "take", "lay"}) {
      expectSeen(name, "java.lang.IllegalStateException");
    }
    for (String name : new String[] {"move", "best", "hoist"}) {
      expectSeen(name, "-1");
    }
    Check.end();
  }

  private static void expectSeen(String name, String answer) {
    if (seen.getOrDefault(name + " " + answer, 0) < 100) {
      Check.fail("the runs hardly show " + name + " with " + answer);
    }
  }

  private static void playRun(int run) {
    TreadCranes x = new TreadCranes();
    Model model = new Model();
    for (int call = 0; call < CALLS; call++) {
      String name = call < 3 ? "build" : CALLED[next(CALLED.length)];
      if (name.equals("mend") && run % 3 > 0) {
        name = "hoist";
      }
      boolean wild = next(25) == 0;
      int a = first(model, name, wild);
      int b = second(model, name, a, wild);
      int c = wild ? wildNumber() : name.equals("build") ? 1 + next(1 + next(6)) : next(16);
      int d = wild ? wildNumber() : Math.max(next(9), next(9));
      String got = answer(x, name, a, b, c, d);
      String due = model.answer(name, a, b, c, d);
      note(name, got);
      if (!got.equals(due)) {
        Check.fail("run " + run + ", call " + call + ": " + name + "(" + a + ", " + b + ", " + c + ", " + d
            + ") answered " + got + ", due is " + due);
        return;
      }
    }
    Check.is("run " + run + " digest", x.digest(), Long.parseLong(model.answer("digest", 0, 0, 0, 0)));
  }

  private static void note(String name, String got) {
    String kind = got.contains("Exception") || got.equals("-1") ? got : "an answer";
    seen.merge(name + " " + kind, 1, Integer::sum);
  }

  private static String answer(TreadCranes x, String name, int a, int b, int c, int d) {
    LongSupplier call = () -> switch (name) {
      case "land" -> x.land(a, b);
      case "build" -> x.build(a, b, c, d);
      case "man" -> x.man(a, b);
      case "mend" -> x.mend(a);
      case "turn" -> x.turn(a, b);
      case "hoist" -> x.hoist(a, b);
      case "take" -> x.take(a);
      case "lay" -> x.lay(a);
      case "place" -> x.place(a, b);
      case "barrel" -> x.barrel(a, b);
      case "crane" -> x.crane(a, b);
      case "count" -> x.count(a);
      case "move" -> x.move(a, b, c);
      case "best" -> x.best(a, b);
      case "lasts" -> x.lasts(a, b);
      case "within" -> x.within(a);
      case "mean" -> Double.doubleToLongBits(x.mean());
      default -> x.digest();
    };
    return Check.answer(call);
  }

  private static int first(Model model, String name, boolean wild) {
    if (wild && next(2) == 0) {
      return wildNumber();
    }
    return switch (name) {
      case "land", "build", "place" -> next(16);
      case "best" -> next(16);
      case "barrel" -> next(Math.max(1, model.count(1)));
      case "count" -> next(7);
      default -> next(Math.max(1, model.count(5)));
    };
  }

  private static int second(Model model, String name, int a, boolean wild) {
    if (wild) {
      return wildNumber();
    }
    boolean aCrane = a >= 0 && a < model.count(5);
    return switch (name) {
      case "land", "lasts" -> 1 + next(60);
      case "build" -> 1 + next(15);
      case "man" -> Math.max(next(9), next(9));
      case "hoist" -> aCrane && next(3) > 0 ? fittingHeight(model, a) : next(21);
      case "place" -> next(4);
      case "barrel" -> next(5);
      case "crane" -> next(9);
      default -> next(16);
    };
  }

  /** Heights at random would seldom allow take and lay, and hardly ever wear a brake out. */
  private static int fittingHeight(Model model, int crane) {
    int placeHeight = model.place(model.crane(crane, 5), 0);
    if (model.crane(crane, 7) < 0) {
      return placeHeight;
    }
    return model.crane(crane, 6) < 15 && next(4) > 0 ? 20 - next(3) : placeHeight + 1;
  }

  private static int wildNumber() {
    int[] numbers = {Integer.MIN_VALUE, -2, -1, 0, 1, 5, 6, 7, 8, 9, 15, 16, 21, 40, 61, Integer.MAX_VALUE};
    return numbers[next(numbers.length)];
  }

  private static int next(int bound) {
    state = state * 6364136223846793005L + 1442695040888963407L;
    return (int) ((state >>> 33) % bound);
  }
}
