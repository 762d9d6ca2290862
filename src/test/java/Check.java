import java.util.ArrayList;
import java.util.List;
import java.util.function.Consumer;
import java.util.function.LongSupplier;
import java.util.function.Supplier;
import java.util.function.ToLongFunction;

/** What the tests share: each call's answer is compared, and a wrong one is printed. */
final class Check {
  private static int wrong = 0;

  private Check() {
  }

  static void is(String call, long got, long due) {
    if (got != due) {
      fail(call + " answered " + got + ", due is " + due);
    }
  }

  static void is(String call, double got, double due) {
    if (got != due) {
      fail(call + " answered " + got + ", due is " + due);
    }
  }

  /** A wharf of its own for each test, after these calls. */
  static Supplier<TreadCranes> after(Consumer<TreadCranes> calls) {
    return () -> {
      TreadCranes x = new TreadCranes();
      calls.accept(x);
      return x;
    };
  }

  /** The call has this answer. */
  static void answers(String call, Supplier<TreadCranes> wharf, ToLongFunction<TreadCranes> body, long due) {
    is(call, body.applyAsLong(wharf.get()), due);
  }

  /** The call has this answer, and leaves all as it was. */
  static void asks(String call, Supplier<TreadCranes> wharf, ToLongFunction<TreadCranes> body, long due) {
    TreadCranes x = wharf.get();
    is(call, body.applyAsLong(x), due);
    isAsIfNotCalled(call, x, wharf.get());
  }

  /** The call throws just this exception, and leaves all as it was. */
  static void refuses(String call, Class<?> due, Supplier<TreadCranes> wharf, ToLongFunction<TreadCranes> body) {
    TreadCranes x = wharf.get();
    String got = answer(() -> body.applyAsLong(x));
    if (!got.equals(due.getName())) {
      fail(call + " answered " + got + ", due is " + due.getName());
    }
    isAsIfNotCalled(call, x, wharf.get());
  }

  static void outOfBounds(String call, Supplier<TreadCranes> wharf, ToLongFunction<TreadCranes> body) {
    refuses(call, IndexOutOfBoundsException.class, wharf, body);
  }

  static void badArgument(String call, Supplier<TreadCranes> wharf, ToLongFunction<TreadCranes> body) {
    refuses(call, IllegalArgumentException.class, wharf, body);
  }

  static void badState(String call, Supplier<TreadCranes> wharf, ToLongFunction<TreadCranes> body) {
    refuses(call, IllegalStateException.class, wharf, body);
  }

  /** Numbers beside a range, close by and far off; those far off would be in it as short or byte. */
  static int[] outside(int low, int high) {
    return new int[] {
      Integer.MIN_VALUE, Integer.MIN_VALUE + low, low - 65536, low - 256, low - 2, low - 1,
      high + 1, high + 2, high + 256, high + 65536, Integer.MAX_VALUE
    };
  }

  private static void isAsIfNotCalled(String call, TreadCranes x, TreadCranes twin) {
    List<String> got = told(x);
    List<String> due = told(twin);
    for (int i = 0; i < got.size() && i < due.size(); i++) {
      if (!got.get(i).equals(due.get(i))) {
        fail(call + " changed something: " + got.get(i) + " instead of " + due.get(i));
        return;
      }
    }
    is(call + ": the number of answers then", got.size(), due.size());
  }

  /** All that a wharf tells, and how it goes on: what is hidden would show there. */
  private static List<String> told(TreadCranes x) {
    List<String> told = new ArrayList<>();
    tell(told, "mean()", () -> Double.doubleToLongBits(x.mean()));
    tell(told, "digest()", x::digest);
    for (int what = 0; what < 7; what++) {
      int w = what;
      tell(told, "count(" + w + ")", () -> x.count(w));
    }
    int barrels = x.count(1);
    int cranes = x.count(5);
    for (int i = 0; i < 16 * 4; i++) {
      int place = i / 4;
      int what = i % 4;
      tell(told, "place(" + place + ", " + what + ")", () -> x.place(place, what));
    }
    for (int i = 0; i < barrels * 5; i++) {
      int barrel = i / 5;
      int what = i % 5;
      tell(told, "barrel(" + barrel + ", " + what + ")", () -> x.barrel(barrel, what));
    }
    for (int i = 0; i < cranes * 9; i++) {
      int crane = i / 9;
      int what = i % 9;
      tell(told, "crane(" + crane + ", " + what + ")", () -> x.crane(crane, what));
    }
    goOn(x, cranes, told);
    return told;
  }

  private static void goOn(TreadCranes x, int cranes, List<String> told) {
    for (int i = 0; i < cranes; i++) {
      int crane = i;
      tell(told, "lay(" + crane + ") next", () -> x.lay(crane));
      tell(told, "take(" + crane + ") next", () -> x.take(crane));
      tell(told, "hoist(" + crane + ", 20) next", () -> x.hoist(crane, 20));
      tell(told, "turn(" + crane + ", 7) next", () -> x.turn(crane, 7));
    }
    for (int i = 0; i < 16; i++) {
      int place = i;
      tell(told, "land(" + place + ", 1) next", () -> x.land(place, 1));
    }
    tell(told, "build(0, 15, 1, 8) next", () -> x.build(0, 15, 1, 8));
  }

  private static void tell(List<String> told, String call, LongSupplier body) {
    told.add(call + " = " + answer(body));
  }

  /** The call's answer, or the name of what it throws. */
  static String answer(LongSupplier body) {
    try {
      return Long.toString(body.getAsLong());
    } catch (RuntimeException e) {
      String name = e.getClass().getName();
      return isThrownByTheCode(e) ? name : name + " of the library";
    }
  }

  /** A list throws the same exceptions as the document wants, but the class has to look first. */
  private static boolean isThrownByTheCode(RuntimeException e) {
    StackTraceElement[] trace = e.getStackTrace();
    if (trace.length == 0) {
      return false;
    }
    String thrower = trace[0].getClassName();
    return thrower.startsWith("TreadCranes") || thrower.equals("Model");
  }

  static void fail(String what) {
    wrong++;
    System.out.println(what);
  }

  static void end() {
    System.out.println(wrong == 0 ? "all answers are as due" : wrong + " answers are not as due");
    if (wrong != 0) {
      System.exit(1);
    }
  }
}
