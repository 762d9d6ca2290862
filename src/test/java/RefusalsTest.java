import java.util.function.Supplier;

/**
 * "A method that throws an exception changes nothing. If several exceptions apply, the one that is
 * named first is thrown." Each exception that the document names is asked for upon a wharf where
 * brakes are worn, hooks are low, and loads hang.
 */
public final class RefusalsTest {
  private static final Supplier<TreadCranes> BUSY = Check.after(Scenes::busy);
  private static final Supplier<TreadCranes> FULL = Check.after(x -> {
    Scenes.busy(x);
    for (int i = 0; i < 28; i++) {
      x.land(5 + i / 8, 3);
    }
  });

  public static void main(String[] args) {
    theWharfIsBusy();
    landChangesNothing();
    buildChangesNothing();
    manAndMendChangeNothing();
    turnChangesNothing();
    hoistChangesNothing();
    takeChangesNothing();
    layChangesNothing();
    tellingChangesNothing();
    askingChangesNothing();
    landThrowsTheFirst();
    buildThrowsTheFirst();
    manThrowsTheFirst();
    turnThrowsTheFirst();
    hoistThrowsTheFirst();
    lastsThrowsTheFirst();
    Check.end();
  }

  private static void theWharfIsBusy() {
    long[] due = {0, 12, 10, 2, 0, 5, 8};
    for (int what = 1; what < 7; what++) {
      int w = what;
      Check.answers("count(" + w + ")", BUSY, x -> x.count(w), due[w]);
    }
    Check.answers("wear of crane 0", BUSY, x -> x.crane(0, 4), 37);
    Check.answers("barrels of the full one", FULL, x -> x.count(1), 40);
  }

  private static void landChangesNothing() {
    Check.outOfBounds("place 16", BUSY, x -> x.land(16, 5));
    Check.outOfBounds("place -1", BUSY, x -> x.land(-1, 5));
    Check.badArgument("weight 0", BUSY, x -> x.land(0, 0));
    Check.badArgument("weight 61", BUSY, x -> x.land(0, 61));
    Check.badState("8 stand there", BUSY, x -> x.land(12, 5));
    Check.badState("a low hook", BUSY, x -> x.land(9, 5));
    Check.badState("a low load and a low hook", BUSY, x -> x.land(3, 5));
    Check.badState("there are 40", FULL, x -> x.land(0, 5));
  }

  private static void buildChangesNothing() {
    Check.outOfBounds("place 16", BUSY, x -> x.build(16, 1, 1, 1));
    Check.outOfBounds("place -1", BUSY, x -> x.build(-1, 1, 1, 1));
    Check.badArgument("reach 0", BUSY, x -> x.build(0, 0, 1, 1));
    Check.badArgument("reach 16", BUSY, x -> x.build(0, 16, 1, 1));
    Check.badArgument("drum 0", BUSY, x -> x.build(0, 1, 0, 1));
    Check.badArgument("drum 7", BUSY, x -> x.build(0, 1, 7, 1));
    Check.badArgument("walkers -1", BUSY, x -> x.build(0, 1, 1, -1));
    Check.badArgument("walkers 9", BUSY, x -> x.build(0, 1, 1, 9));
    Check.badState("there are 5", BUSY, x -> x.build(0, 1, 1, 1));
  }

  private static void manAndMendChangeNothing() {
    Check.outOfBounds("man of crane 5", BUSY, x -> x.man(5, 1));
    Check.outOfBounds("man of crane -1", BUSY, x -> x.man(-1, 1));
    Check.badArgument("walkers -1", BUSY, x -> x.man(0, -1));
    Check.badArgument("walkers 9", BUSY, x -> x.man(0, 9));
    Check.outOfBounds("mend of crane 5", BUSY, x -> x.mend(5));
    Check.outOfBounds("mend of crane -1", BUSY, x -> x.mend(-1));
  }

  private static void turnChangesNothing() {
    Check.outOfBounds("crane 5", BUSY, x -> x.turn(5, 3));
    Check.outOfBounds("crane -1", BUSY, x -> x.turn(-1, 3));
    Check.outOfBounds("place 16", BUSY, x -> x.turn(4, 16));
    Check.outOfBounds("place -1", BUSY, x -> x.turn(0, -1));
    Check.badState("out of reach", BUSY, x -> x.turn(3, 10));
    Check.badState("past the high ones", BUSY, x -> x.turn(0, 15));
    Check.badState("past a low one", BUSY, x -> x.turn(0, 10));
    Check.badState("into a low one", BUSY, x -> x.turn(3, 9));
  }

  private static void hoistChangesNothing() {
    Check.outOfBounds("crane 5", BUSY, x -> x.hoist(5, 9));
    Check.outOfBounds("crane -1", BUSY, x -> x.hoist(-1, 9));
    Check.badArgument("height -1", BUSY, x -> x.hoist(0, -1));
    Check.badArgument("height 21", BUSY, x -> x.hoist(1, 21));
    Check.badState("the load into the place", BUSY, x -> x.hoist(0, 0));
    Check.badState("the hook into the place", BUSY, x -> x.hoist(1, 0));
    Check.badState("the load into barrels", BUSY, x -> x.hoist(2, 8));
    Check.badState("too heavy", BUSY, x -> x.hoist(0, 2));
  }

  private static void takeChangesNothing() {
    Check.outOfBounds("crane 5", BUSY, x -> x.take(5));
    Check.outOfBounds("crane -1", BUSY, x -> x.take(-1));
    Check.badState("it has a load", BUSY, x -> x.take(2));
    Check.badState("no barrel stands there", BUSY, x -> x.take(3));
    Check.badState("too high", BUSY, x -> x.take(4));
  }

  private static void layChangesNothing() {
    Check.outOfBounds("crane 5", BUSY, x -> x.lay(5));
    Check.outOfBounds("crane -1", BUSY, x -> x.lay(-1));
    Check.badState("no load", BUSY, x -> x.lay(1));
    Check.badState("8 stand there", BUSY, x -> x.lay(2));
    Check.badState("another hook", BUSY, x -> x.lay(0));
    Check.badState("too high", Check.after(x -> {
      Scenes.busy(x);
      x.turn(3, 4);
      x.man(0, 8);
      x.hoist(0, 2);
    }), x -> x.lay(0));
  }

  private static void tellingChangesNothing() {
    Check.outOfBounds("place 16", BUSY, x -> x.place(16, 0));
    Check.outOfBounds("place -1", BUSY, x -> x.place(-1, 0));
    Check.outOfBounds("place, what 4", BUSY, x -> x.place(0, 4));
    Check.outOfBounds("place, what -1", BUSY, x -> x.place(0, -1));
    Check.outOfBounds("barrel 12", BUSY, x -> x.barrel(12, 0));
    Check.outOfBounds("barrel -1", BUSY, x -> x.barrel(-1, 0));
    Check.outOfBounds("barrel, what 5", BUSY, x -> x.barrel(0, 5));
    Check.outOfBounds("barrel, what -1", BUSY, x -> x.barrel(0, -1));
    Check.outOfBounds("crane 5", BUSY, x -> x.crane(5, 0));
    Check.outOfBounds("crane -1", BUSY, x -> x.crane(-1, 0));
    Check.outOfBounds("crane, what 9", BUSY, x -> x.crane(0, 9));
    Check.outOfBounds("crane, what -1", BUSY, x -> x.crane(0, -1));
    Check.outOfBounds("count, what 7", BUSY, x -> x.count(7));
    Check.outOfBounds("count, what -1", BUSY, x -> x.count(-1));
  }

  private static void askingChangesNothing() {
    Check.outOfBounds("move of crane 5", BUSY, x -> x.move(5, 12, 11));
    Check.outOfBounds("move of crane -1", BUSY, x -> x.move(-1, 12, 11));
    Check.outOfBounds("move from 16", BUSY, x -> x.move(4, 16, 15));
    Check.outOfBounds("move from -1", BUSY, x -> x.move(4, -1, 15));
    Check.outOfBounds("move to 16", BUSY, x -> x.move(4, 15, 16));
    Check.outOfBounds("move to -1", BUSY, x -> x.move(4, 15, -1));
    Check.outOfBounds("best from 16", BUSY, x -> x.best(16, 15));
    Check.outOfBounds("best from -1", BUSY, x -> x.best(-1, 15));
    Check.outOfBounds("best to 16", BUSY, x -> x.best(15, 16));
    Check.outOfBounds("best to -1", BUSY, x -> x.best(15, -1));
    Check.outOfBounds("lasts of crane 5", BUSY, x -> x.lasts(5, 1));
    Check.outOfBounds("lasts of crane -1", BUSY, x -> x.lasts(-1, 1));
    Check.badArgument("lasts of weight 0", BUSY, x -> x.lasts(0, 0));
    Check.badArgument("lasts of weight 61", BUSY, x -> x.lasts(0, 61));
    Check.outOfBounds("within of crane 5", BUSY, x -> x.within(5));
    Check.outOfBounds("within of crane -1", BUSY, x -> x.within(-1));
  }

  private static void landThrowsTheFirst() {
    Check.outOfBounds("place, weight, 40", FULL, x -> x.land(16, 61));
    Check.outOfBounds("place, 40", FULL, x -> x.land(-1, 1));
    Check.outOfBounds("place, weight", BUSY, x -> x.land(16, 0));
    Check.badArgument("weight, 40", FULL, x -> x.land(0, 0));
    Check.badArgument("weight, 40, 8", FULL, x -> x.land(12, 61));
    Check.badArgument("weight, 8", BUSY, x -> x.land(12, 0));
    Check.badArgument("weight, a low hook", BUSY, x -> x.land(9, 61));
  }

  private static void buildThrowsTheFirst() {
    Check.outOfBounds("place, reach, 5", BUSY, x -> x.build(16, 0, 1, 0));
    Check.outOfBounds("place, drum, 5", BUSY, x -> x.build(-1, 1, 7, 0));
    Check.outOfBounds("place, walkers, 5", BUSY, x -> x.build(16, 1, 1, 9));
    Check.outOfBounds("place, 5", BUSY, x -> x.build(16, 1, 1, 0));
    Check.badArgument("reach, 5", BUSY, x -> x.build(0, 16, 1, 0));
    Check.badArgument("drum, 5", BUSY, x -> x.build(0, 1, 0, 0));
    Check.badArgument("walkers, 5", BUSY, x -> x.build(0, 1, 1, -1));
    Check.outOfBounds("place, reach", TreadCranes::new, x -> x.build(16, 0, 1, 0));
    Check.outOfBounds("place, drum", TreadCranes::new, x -> x.build(16, 1, 0, 0));
    Check.outOfBounds("place, walkers", TreadCranes::new, x -> x.build(16, 1, 1, 9));
  }

  private static void manThrowsTheFirst() {
    Check.outOfBounds("crane, walkers", TreadCranes::new, x -> x.man(0, 9));
    Check.outOfBounds("crane 5, walkers", BUSY, x -> x.man(5, 9));
    Check.outOfBounds("crane -1, walkers", BUSY, x -> x.man(-1, -1));
  }

  private static void turnThrowsTheFirst() {
    Check.outOfBounds("place, out of reach", BUSY, x -> x.turn(3, 16));
    Check.outOfBounds("place, past the high ones", BUSY, x -> x.turn(0, 16));
    Check.outOfBounds("crane, place", BUSY, x -> x.turn(5, 16));
  }

  private static void hoistThrowsTheFirst() {
    Check.outOfBounds("crane, height", BUSY, x -> x.hoist(5, 21));
    Check.outOfBounds("crane -1, height", BUSY, x -> x.hoist(-1, -1));
    Check.badArgument("height, the place below", BUSY, x -> x.hoist(1, -1));
    Check.badArgument("height, too heavy", BUSY, x -> x.hoist(0, 21));
  }

  private static void lastsThrowsTheFirst() {
    Check.outOfBounds("crane, weight", TreadCranes::new, x -> x.lasts(0, 0));
    Check.outOfBounds("crane 5, weight", BUSY, x -> x.lasts(5, 61));
    Check.outOfBounds("crane -1, weight", BUSY, x -> x.lasts(-1, 0));
  }
}
