/** Promises 6 to 9: turn, hoist, take, lay. */
public final class WorkTest {
  private static final int[] WILD = {Integer.MIN_VALUE, -1000, -1, 21, 1000, Integer.MAX_VALUE};

  public static void main(String[] args) {
    turnTakesATickAPlace();
    turnRefusesWrongArguments();
    turnStaysWithinReach();
    turnLooksAtEachPlaceOfTheWay();
    turnLooksAtTheLoad();
    hoistRoundsTicksUp();
    hoistRefusesWrongArguments();
    hoistStaysAboveThePlace();
    hoistNeedsStrengthOnlyToLiftALoad();
    loweringALoadWearsTheBrake();
    aLoadFallsOnlyBeyondNinetyNine();
    aFallLeavesTheHook();
    takeTakesTheUppermost();
    takeRefuses();
    takeNeedsNoStrength();
    laySetsDown();
    layRefuses();
    layLooksAtOtherHooks();
    Check.end();
  }

  private static void turnTakesATickAPlace() {
    TreadCranes x = new TreadCranes();
    x.build(5, 10, 6, 0);
    Check.is("turn(0, 15)", x.turn(0, 15), 10);
    Check.is("turn(0, 0)", x.turn(0, 0), 15);
    Check.is("turn(0, 0) again", x.turn(0, 0), 0);
    Check.is("crane(0, 5)", x.crane(0, 5), 0);
    Check.is("crane(0, 0)", x.crane(0, 0), 5);
    Check.is("count(0)", x.count(0), 25);
    Check.is("place(0, 3)", x.place(0, 3), 1);
    Check.is("place(5, 3)", x.place(5, 3), 0);
  }

  private static void turnRefusesWrongArguments() {
    TreadCranes x = new TreadCranes();
    Check.outOfBounds(x, "turn without cranes", () -> x.turn(0, 0));
    x.build(5, 2, 1, 1);
    for (int wild : WILD) {
      Check.outOfBounds(x, "turn crane " + wild, () -> x.turn(wild, 5));
      Check.outOfBounds(x, "turn place " + wild, () -> x.turn(0, wild));
    }
    Check.outOfBounds(x, "turn(0, 16)", () -> x.turn(0, 16));
    Check.outOfBounds(x, "turn(1, 15)", () -> x.turn(1, 15));
  }

  private static void turnStaysWithinReach() {
    TreadCranes x = new TreadCranes();
    x.build(5, 2, 1, 1);
    Check.badState(x, "turn(0, 8)", () -> x.turn(0, 8));
    Check.badState(x, "turn(0, 2)", () -> x.turn(0, 2));
    Check.is("turn(0, 7)", x.turn(0, 7), 2);
    Check.badState(x, "turn(0, 8) from 7", () -> x.turn(0, 8));
    Check.is("turn(0, 3)", x.turn(0, 3), 4);
  }

  private static void turnLooksAtEachPlaceOfTheWay() {
    TreadCranes x = new TreadCranes();
    x.build(5, 10, 1, 1);
    x.hoist(0, 1);
    Check.stand(x, 7, 2, 1);
    Check.badState(x, "turn past 7", () -> x.turn(0, 9));
    Check.badState(x, "turn to 7", () -> x.turn(0, 7));
    Check.is("turn ahead of 7", x.turn(0, 6), 1);
    x.hoist(0, 2);
    Check.is("turn past 7 just high enough", x.turn(0, 9), 3);
    x.hoist(0, 1);
    Check.badState(x, "turn back past 7", () -> x.turn(0, 5));
    Check.is("turn away", x.turn(0, 15), 6);
  }

  private static void turnLooksAtTheLoad() {
    TreadCranes x = new TreadCranes();
    x.build(5, 10, 1, 8);
    Check.stand(x, 5, 1, 3);
    Check.stand(x, 7, 1, 3);
    x.hoist(0, 1);
    x.take(0);
    Check.badState(x, "turn past 7 with a load", () -> x.turn(0, 8));
    Check.is("turn ahead of 7", x.turn(0, 6), 1);
    x.hoist(0, 2);
    Check.is("turn past 7", x.turn(0, 8), 2);
    Check.is("turn with a load back to 7", x.turn(0, 7), 1);
  }

  private static void hoistRoundsTicksUp() {
    for (int drum = 1; drum <= 6; drum++) {
      TreadCranes x = new TreadCranes();
      x.build(0, 1, drum, 0);
      int sum = 0;
      int before = 10;
      for (int height : new int[] {10, 9, 0, 20, 13, 20, 15, 19, 18, 18}) {
        int way = height > before ? height - before : before - height;
        int due = way % drum == 0 ? way / drum : way / drum + 1;
        Check.is("drum " + drum + " hoist(0, " + height + ")", x.hoist(0, height), due);
        Check.is("crane(0, 6)", x.crane(0, 6), height);
        sum += due;
        before = height;
      }
      Check.is("count(0)", x.count(0), sum);
      Check.is("an empty hook wears nothing", x.crane(0, 4), 0);
    }
  }

  private static void hoistRefusesWrongArguments() {
    TreadCranes x = new TreadCranes();
    Check.outOfBounds(x, "hoist without cranes", () -> x.hoist(0, 30));
    x.build(0, 1, 1, 1);
    for (int wild : WILD) {
      Check.outOfBounds(x, "hoist crane " + wild, () -> x.hoist(wild, 5));
      Check.outOfBounds(x, "hoist both " + wild, () -> x.hoist(wild, -1));
      Check.badArgument(x, "hoist height " + wild, () -> x.hoist(0, wild));
    }
    Check.outOfBounds(x, "hoist(1, 5)", () -> x.hoist(1, 5));
    Check.badArgument(x, "hoist(0, 21)", () -> x.hoist(0, 21));
  }

  private static void hoistStaysAboveThePlace() {
    TreadCranes x = new TreadCranes();
    x.build(0, 1, 1, 8);
    Check.stand(x, 0, 3, 2);
    Check.badState(x, "hoist(0, 2)", () -> x.hoist(0, 2));
    Check.is("hoist(0, 3)", x.hoist(0, 3), 7);
    x.take(0);
    Check.badState(x, "hoist(0, 2) with a load", () -> x.hoist(0, 2));
    Check.is("hoist(0, 3) with a load", x.hoist(0, 3), 0);
  }

  private static void hoistNeedsStrengthOnlyToLiftALoad() {
    TreadCranes x = new TreadCranes();
    x.build(0, 1, 5, 2);
    Check.stand(x, 0, 1, 5);
    Check.is("strength", x.crane(0, 8), 4);
    Check.is("hoist empty", x.hoist(0, 20), 2);
    x.hoist(0, 1);
    x.take(0);
    Check.badState(x, "hoist(0, 2) too heavy", () -> x.hoist(0, 2));
    Check.is("hoist(0, 1)", x.hoist(0, 1), 0);
    x.man(0, 3);
    Check.is("hoist(0, 9)", x.hoist(0, 9), 2);
    x.man(0, 0);
    Check.badState(x, "hoist(0, 10) without walkers", () -> x.hoist(0, 10));
    Check.is("hoist(0, 9) without walkers", x.hoist(0, 9), 0);
    Check.is("hoist(0, 2) without walkers", x.hoist(0, 2), 2);
    TreadCranes y = new TreadCranes();
    y.build(0, 1, 1, 1);
    Check.stand(y, 0, 1, 12);
    y.hoist(0, 1);
    y.take(0);
    Check.is("a weight as the strength", y.hoist(0, 2), 1);
  }

  private static void loweringALoadWearsTheBrake() {
    int[] weights = {1, 19, 20, 39, 40, 59, 60};
    int[] wears = {1, 1, 2, 2, 3, 3, 4};
    for (int i = 0; i < weights.length; i++) {
      TreadCranes x = loaded(1, weights[i]);
      x.hoist(0, 11);
      Check.is("lifting wears nothing", x.crane(0, 4), 0);
      x.turn(0, 1);
      Check.is("turning wears nothing", x.crane(0, 4), 0);
      Check.is("hoist(0, 6)", x.hoist(0, 6), 5);
      Check.is("wear by " + weights[i], x.crane(0, 4), 5 * wears[i]);
    }
    TreadCranes x = loaded(4, 20);
    x.hoist(0, 11);
    Check.is("hoist with drum 4", x.hoist(0, 2), 3);
    Check.is("wear with drum 4", x.crane(0, 4), 6);
  }

  private static void aLoadFallsOnlyBeyondNinetyNine() {
    TreadCranes x = loaded(1, 40);
    for (int i = 0; i < 3; i++) {
      x.hoist(0, 12);
      Check.is("lowering by 11", x.hoist(0, 1), 11);
    }
    Check.is("worn by just 99", x.crane(0, 4), 99);
    Check.is("it hangs still", x.crane(0, 7), 0);
    Check.is("hoist(0, 1) is no lowering", x.hoist(0, 1), 0);
    x.hoist(0, 2);
    Check.is("one tick more", x.hoist(0, 1), -1);
    Check.is("it hangs no more", x.crane(0, 7), -1);
  }

  private static void aFallLeavesTheHook() {
    TreadCranes x = loaded(1, 60);
    x.hoist(0, 20);
    x.hoist(0, 1);
    x.hoist(0, 20);
    x.turn(0, 1);
    Check.is("hoist(0, 15)", x.hoist(0, 15), 5);
    Check.is("worn by 96", x.crane(0, 4), 96);
    int ticks = x.count(0);
    Check.badState(x, "too low for the load", () -> x.hoist(0, 0));
    Check.is("worn by 100 would be too much", x.hoist(0, 14), -1);
    long[] due = {0, 15, 1, 8, 99, 1, 15, -1, 96};
    for (int what = 0; what < 9; what++) {
      Check.is("crane(0, " + what + ") after the fall", x.crane(0, what), due[what]);
    }
    long[] broken = {60, -1, 0, -1, 1};
    for (int what = 0; what < 5; what++) {
      Check.is("barrel(0, " + what + ") after the fall", x.barrel(0, what), broken[what]);
    }
    Check.is("a fall takes no ticks", x.count(0), ticks);
    Check.is("nothing stands below", x.place(1, 0), 0);
    Check.is("an empty hook goes down on a worn brake", x.hoist(0, 0), 15);
    Check.is("the brake stays worn", x.mend(0), 99);
  }

  private static void takeTakesTheUppermost() {
    TreadCranes x = new TreadCranes();
    x.build(3, 2, 1, 8);
    Check.stand(x, 3, 2, 5);
    x.hoist(0, 2);
    int ticks = x.count(0);
    Check.is("take(0)", x.take(0), 1);
    Check.is("crane(0, 7)", x.crane(0, 7), 1);
    Check.is("barrel(1, 1)", x.barrel(1, 1), -1);
    Check.is("barrel(1, 3)", x.barrel(1, 3), 0);
    Check.is("barrel(0, 2)", x.barrel(0, 2), 0);
    Check.is("place(3, 0)", x.place(3, 0), 1);
    Check.is("place(3, 1)", x.place(3, 1), 0);
    Check.is("take takes no ticks", x.count(0), ticks);
  }

  private static void takeRefuses() {
    TreadCranes x = new TreadCranes();
    Check.outOfBounds(x, "take without cranes", () -> x.take(0));
    x.build(3, 2, 1, 8);
    for (int wild : WILD) {
      Check.outOfBounds(x, "take " + wild, () -> x.take(wild));
    }
    Check.outOfBounds(x, "take(1)", () -> x.take(1));
    Check.badState(x, "take from nothing", () -> x.take(0));
    x.hoist(0, 0);
    Check.badState(x, "take from nothing at 0", () -> x.take(0));
    x.hoist(0, 3);
    Check.stand(x, 3, 2, 5);
    Check.badState(x, "take from too high", () -> x.take(0));
    x.hoist(0, 2);
    x.take(0);
    Check.badState(x, "take with a load", () -> x.take(0));
    x.build(3, 2, 1, 8);
    Check.badState(x, "take by another, too high", () -> x.take(1));
    x.hoist(1, 1);
    Check.is("take by another", x.take(1), 0);
    Check.is("barrel(0, 3)", x.barrel(0, 3), 1);
  }

  private static void takeNeedsNoStrength() {
    TreadCranes x = new TreadCranes();
    x.build(3, 2, 1, 0);
    Check.stand(x, 3, 1, 60);
    x.hoist(0, 1);
    Check.is("take without walkers", x.take(0), 0);
    Check.is("lay without walkers", x.lay(0), 1);
  }

  private static void laySetsDown() {
    TreadCranes x = new TreadCranes();
    x.build(3, 2, 1, 8);
    Check.stand(x, 3, 1, 5);
    Check.stand(x, 4, 2, 6);
    x.hoist(0, 1);
    x.take(0);
    x.hoist(0, 3);
    x.turn(0, 4);
    int ticks = x.count(0);
    Check.is("lay(0)", x.lay(0), 3);
    Check.is("crane(0, 7)", x.crane(0, 7), -1);
    Check.is("barrel(0, 1)", x.barrel(0, 1), 4);
    Check.is("barrel(0, 3)", x.barrel(0, 3), -1);
    Check.is("barrel(1, 2)", x.barrel(1, 2), 2);
    Check.is("place(4, 1)", x.place(4, 1), 0);
    Check.is("lay takes no ticks", x.count(0), ticks);
    Check.is("it can be taken again", x.take(0), 0);
    Check.is("and set down", x.lay(0), 3);
  }

  private static void layRefuses() {
    TreadCranes x = new TreadCranes();
    Check.outOfBounds(x, "lay without cranes", () -> x.lay(0));
    x.build(3, 2, 1, 8);
    for (int wild : WILD) {
      Check.outOfBounds(x, "lay " + wild, () -> x.lay(wild));
    }
    Check.outOfBounds(x, "lay(1)", () -> x.lay(1));
    x.hoist(0, 1);
    Check.badState(x, "lay without a load", () -> x.lay(0));
    Check.stand(x, 3, 1, 1);
    Check.stand(x, 4, 8, 1);
    x.take(0);
    x.hoist(0, 2);
    Check.badState(x, "lay from too high", () -> x.lay(0));
    x.hoist(0, 9);
    x.turn(0, 4);
    Check.badState(x, "lay upon 8", () -> x.lay(0));
    x.build(4, 2, 1, 8);
    x.hoist(1, 8);
    x.take(1);
    x.hoist(1, 20);
    x.turn(1, 5);
    x.hoist(0, 8);
    Check.is("lay upon 7", x.lay(0), 8);
  }

  private static void layLooksAtOtherHooks() {
    TreadCranes x = new TreadCranes();
    x.build(3, 2, 1, 8);
    x.build(3, 2, 1, 8);
    Check.stand(x, 3, 2, 1);
    x.hoist(0, 2);
    x.take(0);
    x.hoist(1, 1);
    Check.badState(x, "lay through another hook", () -> x.lay(0));
    x.take(1);
    x.hoist(0, 1);
    Check.badState(x, "lay through another's load", () -> x.lay(0));
    x.hoist(1, 2);
    Check.is("lay up to another's load", x.lay(0), 1);
    Check.badState(x, "lay through the empty hook", () -> x.lay(1));
    x.hoist(0, 2);
    Check.is("lay up to the empty hook", x.lay(1), 2);
  }

  /** A crane of 8 walkers at place 0, with barrel 0 as its load, its hook at 1. */
  private static TreadCranes loaded(int drum, int weight) {
    TreadCranes x = new TreadCranes();
    x.build(0, 15, drum, 8);
    x.land(0, weight);
    x.hoist(0, 1);
    x.take(0);
    return x;
  }
}
