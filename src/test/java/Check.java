import java.util.function.LongSupplier;

/** What the tests share: each call's answer is compared, and a wrong one is printed. */
final class Check {
  private static int wrong = 0;

  private Check() {
  }

  static void is(String call, long got, long due) {
    if (got != due) {
      fail(call + " answered " + got + ", due is " + due);
    }
  }

  static void is(String call, double got, double due) {
    if (got != due) {
      fail(call + " answered " + got + ", due is " + due);
    }
  }

  /** The call throws just this exception, and the object is afterwards as it was. */
  static void refuses(TreadCranes x, String call, Class<?> due, LongSupplier body) {
    long before = x.digest();
    String got = answer(body);
    if (!got.equals(due.getName())) {
      fail(call + " answered " + got + ", due is " + due.getName());
    }
    if (x.digest() != before) {
      fail(call + " changed something");
    }
  }

  static void outOfBounds(TreadCranes x, String call, LongSupplier body) {
    refuses(x, call, IndexOutOfBoundsException.class, body);
  }

  static void badArgument(TreadCranes x, String call, LongSupplier body) {
    refuses(x, call, IllegalArgumentException.class, body);
  }

  static void badState(TreadCranes x, String call, LongSupplier body) {
    refuses(x, call, IllegalStateException.class, body);
  }

  /** The call's answer, or the name of what it throws. */
  static String answer(LongSupplier body) {
    try {
      return Long.toString(body.getAsLong());
    } catch (RuntimeException e) {
      String name = e.getClass().getName();
      return isThrownByTheCode(e) ? name : name + " of the library";
    }
  }

  /** A list throws the same exceptions as the document wants, but the class has to look first. */
  private static boolean isThrownByTheCode(RuntimeException e) {
    StackTraceElement[] trace = e.getStackTrace();
    if (trace.length == 0) {
      return false;
    }
    String thrower = trace[0].getClassName();
    return thrower.startsWith("TreadCranes") || thrower.equals("Model");
  }

  /** So many barrels of this weight come to a place. */
  static void stand(TreadCranes x, int place, int barrels, int weight) {
    for (int i = 0; i < barrels; i++) {
      x.land(place, weight);
    }
  }

  static void fail(String what) {
    wrong++;
    System.out.println(what);
  }

  static void end() {
    System.out.println(wrong == 0 ? "all answers are as due" : wrong + " answers are not as due");
    if (wrong != 0) {
      System.exit(1);
    }
  }
}
