/** Promises 1 to 5: a new object, land, build, man, mend. */
public final class BarrelsAndCranesTest {
  private static final int[] WILD = {Integer.MIN_VALUE, -1000, -1, 16, 17, 1000, Integer.MAX_VALUE};

  public static void main(String[] args) {
    aNewObjectIsEmpty();
    landNumbersInOrder();
    landRefusesWrongArguments();
    landStopsAtEightUponAPlace();
    landStopsAtForty();
    fortyCountBrokenAndHangingOnes();
    landLooksAtHooks();
    landLooksAtLoadedHooks();
    buildMakesACraneAtRest();
    buildRefusesWrongArguments();
    buildStopsAtFive();
    manAnswersThoseBefore();
    manRefusesWrongArguments();
    mendAnswersTheOldWear();
    Check.end();
  }

  private static void aNewObjectIsEmpty() {
    TreadCranes x = new TreadCranes();
    for (int what = 0; what < 7; what++) {
      Check.is("new count(" + what + ")", x.count(what), 0);
    }
    for (int place = 0; place < 16; place++) {
      Check.is("new place 0", x.place(place, 0), 0);
      Check.is("new place 1", x.place(place, 1), -1);
      Check.is("new place 2", x.place(place, 2), 0);
      Check.is("new place 3", x.place(place, 3), 0);
    }
    Check.outOfBounds(x, "new barrel(0, 0)", () -> x.barrel(0, 0));
    Check.outOfBounds(x, "new crane(0, 0)", () -> x.crane(0, 0));
    Check.is("new mean", x.mean(), 0.0);
  }

  private static void landNumbersInOrder() {
    TreadCranes x = new TreadCranes();
    Check.is("land(0, 1)", x.land(0, 1), 0);
    Check.is("land(15, 60)", x.land(15, 60), 1);
    Check.is("land(0, 7)", x.land(0, 7), 2);
    Check.is("place(0, 0)", x.place(0, 0), 2);
    Check.is("place(0, 1)", x.place(0, 1), 2);
    Check.is("place(15, 0)", x.place(15, 0), 1);
    Check.is("barrel(1, 0)", x.barrel(1, 0), 60);
    Check.is("barrel(1, 1)", x.barrel(1, 1), 15);
  }

  private static void landRefusesWrongArguments() {
    TreadCranes x = new TreadCranes();
    for (int wild : WILD) {
      Check.outOfBounds(x, "land place " + wild, () -> x.land(wild, 5));
      Check.outOfBounds(x, "land both " + wild, () -> x.land(wild, 0));
    }
    for (int weight : new int[] {Integer.MIN_VALUE, -1, 0, 61, Integer.MAX_VALUE}) {
      Check.badArgument(x, "land weight " + weight, () -> x.land(3, weight));
    }
    Check.stand(x, 3, 8, 1);
    Check.badArgument(x, "land weight upon a full place", () -> x.land(3, 0));
    Check.outOfBounds(x, "land place beside a full one", () -> x.land(16, 0));
  }

  private static void landStopsAtEightUponAPlace() {
    TreadCranes x = new TreadCranes();
    Check.stand(x, 4, 8, 1);
    Check.badState(x, "ninth land(4, 1)", () -> x.land(4, 1));
    Check.is("land beside it", x.land(5, 1), 8);
  }

  private static void landStopsAtForty() {
    TreadCranes x = new TreadCranes();
    for (int place = 0; place < 5; place++) {
      Check.stand(x, place, 8, 1);
    }
    Check.is("count(1)", x.count(1), 40);
    Check.badState(x, "41st land", () -> x.land(9, 1));
  }

  private static void fortyCountBrokenAndHangingOnes() {
    TreadCranes x = new TreadCranes();
    x.build(9, 5, 1, 8);
    x.land(9, 60);
    x.hoist(0, 1);
    x.take(0);
    x.hoist(0, 20);
    x.hoist(0, 1);
    x.hoist(0, 20);
    Check.is("the fall", x.hoist(0, 1), -1);
    x.hoist(0, 1);
    x.land(9, 5);
    x.take(0);
    for (int place = 0; place < 4; place++) {
      Check.stand(x, place, 8, 1);
    }
    Check.stand(x, 4, 6, 1);
    Check.is("count(1)", x.count(1), 40);
    Check.is("count(3)", x.count(3), 1);
    Check.is("count(4)", x.count(4), 1);
    Check.badState(x, "41st land", () -> x.land(12, 1));
  }

  private static void landLooksAtHooks() {
    TreadCranes x = new TreadCranes();
    x.build(2, 3, 1, 1);
    x.hoist(0, 1);
    Check.is("land up to the hook", x.land(2, 5), 0);
    Check.badState(x, "land through the hook", () -> x.land(2, 5));
    x.build(2, 3, 1, 1);
    Check.badState(x, "land through the lower hook", () -> x.land(2, 5));
    x.turn(0, 3);
    Check.is("land below the other hook", x.land(2, 5), 1);
    Check.is("land below the moved hook", x.land(3, 5), 2);
    Check.badState(x, "land through the moved hook", () -> x.land(3, 5));
  }

  private static void landLooksAtLoadedHooks() {
    TreadCranes x = new TreadCranes();
    x.build(2, 3, 1, 8);
    x.land(2, 5);
    x.hoist(0, 1);
    x.take(0);
    Check.badState(x, "land through the load", () -> x.land(2, 5));
    x.hoist(0, 2);
    Check.is("land up to the load", x.land(2, 5), 1);
    Check.badState(x, "land through the load again", () -> x.land(2, 5));
  }

  private static void buildMakesACraneAtRest() {
    TreadCranes x = new TreadCranes();
    Check.stand(x, 7, 8, 1);
    Check.is("build(7, 15, 6, 8)", x.build(7, 15, 6, 8), 0);
    long[] due = {7, 15, 6, 8, 0, 7, 10, -1, 16};
    for (int what = 0; what < 9; what++) {
      Check.is("crane(0, " + what + ")", x.crane(0, what), due[what]);
    }
    Check.is("build at the same place", x.build(7, 1, 1, 0), 1);
    Check.is("place(7, 3)", x.place(7, 3), 2);
    Check.is("count(5)", x.count(5), 2);
    Check.is("count(0)", x.count(0), 0);
  }

  private static void buildRefusesWrongArguments() {
    TreadCranes x = new TreadCranes();
    for (int wild : WILD) {
      Check.outOfBounds(x, "build place " + wild, () -> x.build(wild, 5, 1, 1));
      Check.outOfBounds(x, "build all " + wild, () -> x.build(wild, wild, wild, wild));
      Check.badArgument(x, "build reach " + wild, () -> x.build(0, wild, 1, 1));
      Check.badArgument(x, "build drum " + wild, () -> x.build(0, 5, wild, 1));
      Check.badArgument(x, "build walkers " + wild, () -> x.build(0, 5, 1, wild));
    }
    Check.badArgument(x, "build reach 0", () -> x.build(0, 0, 1, 1));
    Check.badArgument(x, "build drum 0", () -> x.build(0, 5, 0, 1));
    Check.badArgument(x, "build drum 7", () -> x.build(0, 5, 7, 1));
    Check.badArgument(x, "build walkers 9", () -> x.build(0, 5, 1, 9));
  }

  private static void buildStopsAtFive() {
    TreadCranes x = new TreadCranes();
    for (int i = 0; i < 5; i++) {
      Check.is("build", x.build(15, 1, 1, 0), i);
    }
    Check.badState(x, "sixth build", () -> x.build(0, 1, 1, 0));
    Check.badArgument(x, "sixth build, wrong drum", () -> x.build(0, 1, 0, 0));
    Check.outOfBounds(x, "sixth build, wrong place", () -> x.build(-1, 1, 0, 0));
  }

  private static void manAnswersThoseBefore() {
    TreadCranes x = new TreadCranes();
    x.build(0, 5, 5, 3);
    x.build(1, 5, 5, 4);
    Check.is("man(0, 8)", x.man(0, 8), 3);
    Check.is("man(0, 0)", x.man(0, 0), 8);
    Check.is("man(0, 2)", x.man(0, 2), 0);
    Check.is("crane(0, 3)", x.crane(0, 3), 2);
    Check.is("crane(0, 8)", x.crane(0, 8), 4);
    Check.is("crane(1, 3)", x.crane(1, 3), 4);
  }

  private static void manRefusesWrongArguments() {
    TreadCranes x = new TreadCranes();
    Check.outOfBounds(x, "man without cranes", () -> x.man(0, 1));
    x.build(0, 5, 5, 3);
    for (int wild : WILD) {
      Check.outOfBounds(x, "man crane " + wild, () -> x.man(wild, 1));
      Check.outOfBounds(x, "man both " + wild, () -> x.man(wild, 9));
      Check.badArgument(x, "man walkers " + wild, () -> x.man(0, wild));
    }
    Check.outOfBounds(x, "man(1, 1)", () -> x.man(1, 1));
    Check.badArgument(x, "man(0, 9)", () -> x.man(0, 9));
  }

  private static void mendAnswersTheOldWear() {
    TreadCranes x = new TreadCranes();
    Check.outOfBounds(x, "mend without cranes", () -> x.mend(0));
    x.build(0, 5, 1, 8);
    x.build(0, 5, 1, 8);
    Check.is("mend unworn", x.mend(0), 0);
    x.land(0, 20);
    x.hoist(0, 1);
    x.take(0);
    x.hoist(0, 11);
    x.hoist(0, 1);
    Check.is("crane(0, 4)", x.crane(0, 4), 20);
    Check.is("mend of the other", x.mend(1), 0);
    Check.is("mend(0)", x.mend(0), 20);
    Check.is("crane(0, 4) then", x.crane(0, 4), 0);
    Check.is("mend(0) again", x.mend(0), 0);
    for (int wild : WILD) {
      Check.outOfBounds(x, "mend " + wild, () -> x.mend(wild));
    }
    Check.outOfBounds(x, "mend(2)", () -> x.mend(2));
  }
}
