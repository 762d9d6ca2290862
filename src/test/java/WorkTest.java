import java.util.function.Supplier;

/** Promises 6 to 9: turn, hoist, take, lay. */
public final class WorkTest {
  public static void main(String[] args) {
    turnTakesATickAPlace();
    turnOfNoCrane();
    turnOffTheQuay();
    turnFartherThanTheReach();
    turnThroughAPlaceOfTheWay();
    turnPastPlacesThatAreNotOnTheWay();
    turnThroughAPlaceWithALoad();
    hoistAnswersTheTicks();
    hoistOfNoCrane();
    hoistToAWrongHeight();
    hoistIntoThePlaceBelow();
    hoistOfTheLoadIntoThePlaceBelow();
    hoistOfALoadThatIsTooHeavy();
    hoistWithoutALoadNeedsNoStrength();
    loweringNeedsNoStrength();
    hoistAnswersThatTheLoadFalls();
    takeTakesTheUppermost();
    takeOfNoCrane();
    takeWithALoad();
    takeWhereNoBarrelStands();
    takeFromTooHigh();
    takeNeedsNoStrength();
    laySetsDown();
    layOfNoCrane();
    layWithoutALoad();
    layFromTooHigh();
    layUpon8();
    layUnderAnotherHook();
    layUnderAnotherLoad();
    layNeedsNoStrength();
    Check.end();
  }

  private static void turnTakesATickAPlace() {
    TreadCranes x = new TreadCranes();
    x.build(5, 10, 6, 0);
    Check.is("turn(0, 15)", x.turn(0, 15), 10);
    Check.is("turn(0, 0)", x.turn(0, 0), 15);
    Check.is("turn(0, 0) again", x.turn(0, 0), 0);
    Check.is("crane(0, 5)", x.crane(0, 5), 0);
    Check.is("crane(0, 0)", x.crane(0, 0), 5);
    Check.is("crane(0, 6)", x.crane(0, 6), 10);
    Check.is("count(0)", x.count(0), 25);
    Check.is("place(0, 3)", x.place(0, 3), 1);
    Check.is("place(5, 3)", x.place(5, 3), 0);
  }

  /** "if there is no such crane". */
  private static void turnOfNoCrane() {
    Check.outOfBounds("turn without cranes", TreadCranes::new, x -> x.turn(0, 0));
    for (int crane : Check.outside(0, 1)) {
      Check.outOfBounds("turn(" + crane + ", 9)", Check.after(x -> Scenes.built(x, 2)), x -> x.turn(crane, 9));
    }
    for (int crane : Check.outside(0, 4)) {
      Check.outOfBounds("turn(" + crane + ", 8) of 5", Check.after(x -> Scenes.built(x, 5)), x -> x.turn(crane, 8));
    }
    Check.answers("turn of the last", Check.after(x -> Scenes.built(x, 5)), x -> x.turn(4, 8), 1);
  }

  /** "or place is not 0 to 15": where the reach would let it, too. */
  private static void turnOffTheQuay() {
    for (int place : Check.outside(0, 15)) {
      for (int from : new int[] {0, 15}) {
        Check.outOfBounds("turn(0, " + place + ")", Check.after(x -> x.build(from, 15, 1, 1)), x -> x.turn(0, place));
      }
    }
    Check.answers("turn(0, 0)", Check.after(x -> x.build(15, 15, 1, 1)), x -> x.turn(0, 0), 15);
    Check.answers("turn(0, 15)", Check.after(x -> x.build(0, 15, 1, 1)), x -> x.turn(0, 15), 15);
  }

  /** "if the place is farther from the crane than its reach": from the crane, not from its hook. */
  private static void turnFartherThanTheReach() {
    Supplier<TreadCranes> wharf = Check.after(x -> x.build(5, 2, 1, 1));
    Check.answers("as far as the reach, to the right", wharf, x -> x.turn(0, 7), 2);
    Check.answers("as far as the reach, to the left", wharf, x -> x.turn(0, 3), 2);
    Check.badState("farther, to the right", wharf, x -> x.turn(0, 8));
    Check.badState("farther, to the left", wharf, x -> x.turn(0, 2));
    Supplier<TreadCranes> right = Check.after(x -> {
      x.build(5, 2, 1, 1);
      x.turn(0, 7);
    });
    Check.badState("near the hook, but far from the crane", right, x -> x.turn(0, 8));
    Check.answers("far from the hook, but near the crane", right, x -> x.turn(0, 3), 4);
  }

  /** "or the hook is not high enough for some place from the one where it is to that one". */
  private static void turnThroughAPlaceOfTheWay() {
    for (int distance = 1; distance <= 5; distance++) {
      int right = 5 + distance;
      int left = 10 - distance;
      Check.badState("from 5 to 10 through " + right, Check.after(x -> inTheWay(x, 5, right, 1)), x -> x.turn(0, 10));
      Check.answers("from 5 to 10 over " + right, Check.after(x -> inTheWay(x, 5, right, 2)), x -> x.turn(0, 10), 5);
      Check.badState("from 10 to 5 through " + left, Check.after(x -> inTheWay(x, 10, left, 1)), x -> x.turn(0, 5));
      Check.answers("from 10 to 5 over " + left, Check.after(x -> inTheWay(x, 10, left, 2)), x -> x.turn(0, 5), 5);
    }
  }

  /** A crane with its hook at a height, and 2 barrels at another place. */
  private static void inTheWay(TreadCranes x, int crane, int place, int hook) {
    x.build(crane, 10, 1, 1);
    Scenes.stand(x, place, 2, 1);
    x.hoist(0, hook);
  }

  /** "from the one where it is to that one": no other place matters, nor that of the crane. */
  private static void turnPastPlacesThatAreNotOnTheWay() {
    Supplier<TreadCranes> left = Check.after(x -> betweenTwoStacks(x, 4));
    Check.answers("from 4 to 10 between 3 and 11", left, x -> x.turn(0, 10), 6);
    Check.answers("from 4 to 4 beside 3", left, x -> x.turn(0, 4), 0);
    Check.badState("from 4 into 11", left, x -> x.turn(0, 11));
    Check.badState("from 4 into 3", left, x -> x.turn(0, 3));
    Supplier<TreadCranes> right = Check.after(x -> betweenTwoStacks(x, 10));
    Check.answers("from 10 to 4 between 11 and 3", right, x -> x.turn(0, 4), 6);
    Check.answers("from 10 to 10 beside 11", right, x -> x.turn(0, 10), 0);
    Check.badState("from 10 into 3", right, x -> x.turn(0, 3));
    Check.badState("from 10 into 11", right, x -> x.turn(0, 11));
  }

  /** 8 barrels at 3, where the crane is, and at 11; its hook is as low as can be, over a place. */
  private static void betweenTwoStacks(TreadCranes x, int place) {
    x.build(3, 12, 1, 1);
    Scenes.stand(x, 3, 8, 1);
    Scenes.stand(x, 11, 8, 1);
    x.turn(0, place);
    x.hoist(0, 0);
  }

  /** "not high enough": with a load it has to be 1 higher. */
  private static void turnThroughAPlaceWithALoad() {
    Supplier<TreadCranes> low = Check.after(x -> loadedBesideABarrel(x, 1));
    Supplier<TreadCranes> just = Check.after(x -> loadedBesideABarrel(x, 2));
    Check.badState("with a load at 1, past a barrel", low, x -> x.turn(0, 4));
    Check.badState("with a load at 1, to a barrel", low, x -> x.turn(0, 2));
    Check.answers("with a load at 1, ahead of it", low, x -> x.turn(0, 1), 1);
    Check.answers("with a load at 2, past a barrel", just, x -> x.turn(0, 4), 4);
    Check.answers("with a load at 2, to a barrel", just, x -> x.turn(0, 2), 2);
  }

  /** Crane 0 has a load over 0, its hook at a height; at 2 stands a barrel. */
  private static void loadedBesideABarrel(TreadCranes x, int hook) {
    Scenes.loaded(x, 1, 3);
    x.land(2, 3);
    x.hoist(0, hook);
  }

  private static void hoistAnswersTheTicks() {
    for (int drum = 1; drum <= 6; drum++) {
      TreadCranes x = new TreadCranes();
      x.build(0, 1, drum, 0);
      int sum = 0;
      int before = 10;
      for (int height : new int[] {10, 9, 0, 20, 13, 20, 15, 19, 18, 18}) {
        int way = height > before ? height - before : before - height;
        int due = way % drum == 0 ? way / drum : way / drum + 1;
        Check.is("drum " + drum + " hoist(0, " + height + ")", x.hoist(0, height), due);
        Check.is("crane(0, 6)", x.crane(0, 6), height);
        sum += due;
        before = height;
      }
      Check.is("count(0)", x.count(0), sum);
    }
  }

  /** "if there is no such crane". */
  private static void hoistOfNoCrane() {
    Check.outOfBounds("hoist without cranes", TreadCranes::new, x -> x.hoist(0, 5));
    for (int crane : Check.outside(0, 1)) {
      Check.outOfBounds("hoist(" + crane + ", 5)", Check.after(x -> Scenes.built(x, 2)), x -> x.hoist(crane, 5));
    }
    for (int crane : Check.outside(0, 4)) {
      Check.outOfBounds("hoist(" + crane + ", 5) of 5", Check.after(x -> Scenes.built(x, 5)), x -> x.hoist(crane, 5));
    }
    Check.answers("hoist of the last", Check.after(x -> Scenes.built(x, 5)), x -> x.hoist(4, 5), 5);
  }

  /** "if height is not 0 to 20". */
  private static void hoistToAWrongHeight() {
    Supplier<TreadCranes> wharf = Check.after(x -> x.build(3, 3, 1, 3));
    for (int height : Check.outside(0, 20)) {
      Check.badArgument("hoist(0, " + height + ")", wharf, x -> x.hoist(0, height));
    }
    Check.answers("hoist(0, 0)", wharf, x -> x.hoist(0, 0), 10);
    Check.answers("hoist(0, 20)", wharf, x -> x.hoist(0, 20), 10);
  }

  /** "if this is not high enough for the place below": that of the hook, not that of the crane. */
  private static void hoistIntoThePlaceBelow() {
    Supplier<TreadCranes> own = Check.after(x -> overPlace(x, 0));
    Supplier<TreadCranes> other = Check.after(x -> overPlace(x, 1));
    Supplier<TreadCranes> empty = Check.after(x -> overPlace(x, 2));
    Check.badState("hoist(0, 2) over 3", own, x -> x.hoist(0, 2));
    Check.badState("hoist(0, 0) over 3", own, x -> x.hoist(0, 0));
    Check.answers("hoist(0, 3) over 3", own, x -> x.hoist(0, 3), 7);
    Check.badState("hoist(0, 4) over 5", other, x -> x.hoist(0, 4));
    Check.answers("hoist(0, 5) over 5", other, x -> x.hoist(0, 5), 5);
    Check.answers("hoist(0, 0) over nothing", empty, x -> x.hoist(0, 0), 10);
  }

  /** 3 barrels stand at 0, where the crane is, 5 at 1, none at 2; the hook is over a place. */
  private static void overPlace(TreadCranes x, int place) {
    x.build(0, 2, 1, 8);
    Scenes.stand(x, 0, 3, 2);
    Scenes.stand(x, 1, 5, 2);
    x.turn(0, place);
  }

  /** "not high enough": with a load it has to be 1 higher. */
  private static void hoistOfTheLoadIntoThePlaceBelow() {
    Supplier<TreadCranes> wharf = Check.after(x -> {
      x.build(0, 1, 1, 8);
      Scenes.stand(x, 0, 3, 2);
      x.hoist(0, 3);
      x.take(0);
      x.hoist(0, 9);
    });
    Check.badState("hoist(0, 2) with a load over 2", wharf, x -> x.hoist(0, 2));
    Check.answers("hoist(0, 3) with a load over 2", wharf, x -> x.hoist(0, 3), 6);
  }

  /** "or it is more than before, and the crane cannot lift its load". */
  private static void hoistOfALoadThatIsTooHeavy() {
    // strength 12
    Supplier<TreadCranes> heavy = Check.after(x -> {
      Scenes.loaded(x, 1, 13);
      x.man(0, 1);
    });
    Supplier<TreadCranes> fine = Check.after(x -> {
      Scenes.loaded(x, 1, 12);
      x.man(0, 1);
    });
    Check.badState("by 1, too heavy", heavy, x -> x.hoist(0, 2));
    Check.badState("to 20, too heavy", heavy, x -> x.hoist(0, 20));
    Check.answers("by 1, as heavy as the strength", fine, x -> x.hoist(0, 2), 1);
    Check.answers("to 20, as heavy as the strength", fine, x -> x.hoist(0, 20), 19);
    Check.answers("to the same height, too heavy", heavy, x -> x.hoist(0, 1), 0);
    Check.answers("too heavy until there are more walkers", heavy, x -> {
      x.man(0, 2);
      return x.hoist(0, 2);
    }, 1);
    Check.badState("without walkers", Check.after(x -> {
      Scenes.loaded(x, 1, 1);
      x.man(0, 0);
    }), x -> x.hoist(0, 2));
  }

  /** "the crane cannot lift its load": an empty hook goes up without walkers. */
  private static void hoistWithoutALoadNeedsNoStrength() {
    Check.answers("without walkers", Check.after(x -> x.build(0, 1, 5, 0)), x -> x.hoist(0, 20), 2);
  }

  /** "it is more than before": a load goes down without walkers. */
  private static void loweringNeedsNoStrength() {
    Supplier<TreadCranes> wharf = Check.after(x -> {
      Scenes.loaded(x, 1, 60);
      x.hoist(0, 9);
      x.man(0, 0);
    });
    Check.answers("down without walkers", wharf, x -> x.hoist(0, 2), 7);
    Check.badState("up without walkers", wharf, x -> x.hoist(0, 10));
  }

  /** "-1 if the load falls". */
  private static void hoistAnswersThatTheLoadFalls() {
    Supplier<TreadCranes> wharf = Check.after(x -> {
      Scenes.loadedAndWorn(x, 60, 91);
      x.hoist(0, 20);
    });
    Check.answers("2 ticks, worn by just 99", wharf, x -> x.hoist(0, 18), 2);
    Check.answers("3 ticks, worn by more", wharf, x -> x.hoist(0, 17), -1);
    Check.answers("19 ticks, worn by more", wharf, x -> x.hoist(0, 1), -1);
    Check.badState("too low, ahead of a fall", wharf, x -> x.hoist(0, 0));
    Check.answers("no load any more", wharf, x -> {
      x.hoist(0, 1);
      return x.hoist(0, 0);
    }, 20);
  }

  private static void takeTakesTheUppermost() {
    TreadCranes x = new TreadCranes();
    x.build(3, 2, 1, 8);
    Scenes.stand(x, 3, 2, 5);
    x.hoist(0, 2);
    int ticks = x.count(0);
    Check.is("take(0)", x.take(0), 1);
    Check.is("crane(0, 7)", x.crane(0, 7), 1);
    Check.is("crane(0, 6)", x.crane(0, 6), 2);
    Check.is("barrel(1, 1)", x.barrel(1, 1), -1);
    Check.is("barrel(1, 3)", x.barrel(1, 3), 0);
    Check.is("barrel(0, 2)", x.barrel(0, 2), 0);
    Check.is("place(3, 0)", x.place(3, 0), 1);
    Check.is("place(3, 1)", x.place(3, 1), 0);
    Check.is("take takes no ticks", x.count(0), ticks);
    x.build(3, 2, 1, 8);
    x.hoist(1, 1);
    Check.is("take(1)", x.take(1), 0);
    Check.is("barrel(0, 3)", x.barrel(0, 3), 1);
    TreadCranes y = new TreadCranes();
    y.build(3, 2, 1, 8);
    y.land(3, 1);
    y.land(5, 1);
    y.hoist(0, 1);
    y.turn(0, 5);
    Check.is("take below the hook, not at the crane", y.take(0), 1);
  }

  /** "if there is no such crane". */
  private static void takeOfNoCrane() {
    Check.outOfBounds("take without cranes", TreadCranes::new, x -> x.take(0));
    for (int crane : Check.outside(0, 1)) {
      Check.outOfBounds("take(" + crane + ")", Check.after(Scenes::mixed), x -> x.take(crane));
    }
    for (int crane : Check.outside(0, 4)) {
      Check.outOfBounds("take(" + crane + ") of 5", Check.after(x -> Scenes.built(x, 5)), x -> x.take(crane));
    }
    Check.answers("take of the last", Check.after(x -> {
      Scenes.built(x, 5);
      x.land(9, 1);
      x.hoist(4, 1);
    }), x -> x.take(4), 0);
  }

  /** "if it has a load". */
  private static void takeWithALoad() {
    Supplier<TreadCranes> wharf = Check.after(x -> {
      x.build(3, 2, 1, 8);
      Scenes.stand(x, 3, 2, 5);
      x.hoist(0, 2);
      x.take(0);
    });
    Check.badState("take with a load just above a barrel", wharf, x -> x.take(0));
    Check.badState("take with a load over nothing", Check.after(x -> Scenes.loaded(x, 1, 1)), x -> x.take(0));
  }

  /** "no barrel stands there". */
  private static void takeWhereNoBarrelStands() {
    Check.badState("take from nothing", Check.after(x -> {
      x.land(4, 1);
      x.build(3, 2, 1, 8);
      x.hoist(0, 0);
    }), x -> x.take(0));
    Check.badState("take from nothing aside", Check.after(x -> {
      x.build(3, 2, 1, 8);
      x.land(3, 1);
      x.turn(0, 4);
      x.hoist(0, 0);
    }), x -> x.take(0));
  }

  /** "or the hook is not just as high as the place". */
  private static void takeFromTooHigh() {
    for (int height = 1; height <= 8; height++) {
      int h = height;
      Supplier<TreadCranes> higher = Check.after(x -> {
        x.build(3, 2, 1, 8);
        Scenes.stand(x, 3, h, 5);
        x.hoist(0, h + 1);
      });
      Supplier<TreadCranes> just = Check.after(x -> {
        x.build(3, 2, 1, 8);
        Scenes.stand(x, 3, h, 5);
        x.hoist(0, h);
      });
      Check.badState("take from 1 above " + h, higher, x -> x.take(0));
      Check.answers("take from " + h, just, x -> x.take(0), h - 1);
    }
    Check.badState("take from 10", Check.after(x -> {
      x.build(3, 2, 1, 8);
      x.land(3, 1);
    }), x -> x.take(0));
  }

  private static void takeNeedsNoStrength() {
    Check.answers("take without walkers", Check.after(x -> {
      x.build(3, 2, 1, 0);
      x.land(3, 60);
      x.hoist(0, 1);
    }), x -> x.take(0), 0);
  }

  private static void laySetsDown() {
    TreadCranes x = new TreadCranes();
    x.build(3, 2, 1, 8);
    Scenes.stand(x, 3, 1, 5);
    Scenes.stand(x, 4, 2, 6);
    x.hoist(0, 1);
    x.take(0);
    x.hoist(0, 3);
    x.turn(0, 4);
    int ticks = x.count(0);
    Check.is("lay(0)", x.lay(0), 3);
    Check.is("crane(0, 7)", x.crane(0, 7), -1);
    Check.is("crane(0, 6)", x.crane(0, 6), 3);
    Check.is("barrel(0, 1)", x.barrel(0, 1), 4);
    Check.is("barrel(0, 3)", x.barrel(0, 3), -1);
    Check.is("barrel(1, 2)", x.barrel(1, 2), 2);
    Check.is("place(4, 1)", x.place(4, 1), 0);
    Check.is("lay takes no ticks", x.count(0), ticks);
    Check.is("it can be taken again", x.take(0), 0);
    Check.is("and set down", x.lay(0), 3);
  }

  /** "if there is no such crane". */
  private static void layOfNoCrane() {
    Check.outOfBounds("lay without cranes", TreadCranes::new, x -> x.lay(0));
    for (int crane : Check.outside(0, 0)) {
      Check.outOfBounds("lay(" + crane + ")", Check.after(x -> Scenes.loaded(x, 1, 1)), x -> x.lay(crane));
    }
    for (int crane : Check.outside(0, 4)) {
      Check.outOfBounds("lay(" + crane + ") of 5", Check.after(x -> Scenes.built(x, 5)), x -> x.lay(crane));
    }
    Check.answers("lay of the last", Check.after(x -> {
      Scenes.built(x, 5);
      x.land(9, 1);
      x.hoist(4, 1);
      x.take(4);
    }), x -> x.lay(4), 1);
  }

  /** "if it has none". */
  private static void layWithoutALoad() {
    Check.badState("lay without a load, 1 above nothing", Check.after(x -> {
      x.build(3, 2, 1, 8);
      x.hoist(0, 1);
    }), x -> x.lay(0));
    Check.badState("lay without a load, 1 above 3", Check.after(x -> {
      x.build(3, 2, 1, 8);
      Scenes.stand(x, 3, 3, 1);
      x.hoist(0, 4);
    }), x -> x.lay(0));
    Check.badState("lay what is laid", Check.after(x -> {
      Scenes.loaded(x, 1, 1);
      x.lay(0);
    }), x -> x.lay(0));
  }

  /** "the hook is not just 1 higher than the place". */
  private static void layFromTooHigh() {
    for (int height = 0; height <= 7; height++) {
      int h = height;
      Supplier<TreadCranes> higher = Check.after(x -> over(x, h, h + 2));
      Supplier<TreadCranes> just = Check.after(x -> over(x, h, h + 1));
      Check.badState("lay from 2 above " + h, higher, x -> x.lay(0));
      Check.answers("lay from 1 above " + h, just, x -> x.lay(0), h + 1);
    }
    Check.badState("lay from 20", Check.after(x -> over(x, 0, 20)), x -> x.lay(0));
  }

  /** Crane 0 holds barrel 0, of weight 1, over so many barrels at place 1, its hook at a height. */
  private static void over(TreadCranes x, int barrels, int hook) {
    Scenes.loaded(x, 1, 1);
    x.hoist(0, 12);
    Scenes.stand(x, 1, barrels, 1);
    x.turn(0, 1);
    x.hoist(0, hook);
  }

  /** "8 stand there". */
  private static void layUpon8() {
    Check.answers("lay upon 7", Check.after(x -> over(x, 7, 8)), x -> x.lay(0), 8);
    Check.badState("lay upon 8", Check.after(x -> over(x, 8, 9)), x -> x.lay(0));
  }

  /** "or another hook over it would not be high enough then": its own is. */
  private static void layUnderAnotherHook() {
    for (int other : new int[] {0, 1}) {
      Supplier<TreadCranes> low = Check.after(x -> beside(x, other, 0, 5));
      Supplier<TreadCranes> just = Check.after(x -> beside(x, other, 1, 5));
      Supplier<TreadCranes> aside = Check.after(x -> beside(x, other, 0, 6));
      Check.badState("lay through hook " + other, low, x -> x.lay(1 - other));
      Check.answers("lay up to hook " + other, just, x -> x.lay(1 - other), 1);
      Check.answers("lay beside hook " + other, aside, x -> x.lay(1 - other), 1);
    }
  }

  /** The one of cranes 0 and 1, both of place 4, has its hook empty; the other one has a load over 5. */
  private static void beside(TreadCranes x, int empty, int height, int place) {
    x.build(4, 3, 1, 8);
    x.build(4, 3, 1, 8);
    x.land(4, 1);
    x.hoist(1 - empty, 1);
    x.take(1 - empty);
    x.turn(1 - empty, 5);
    x.turn(empty, place);
    x.hoist(empty, height);
  }

  /** "would not be high enough then": with a load it has to be 1 higher. */
  private static void layUnderAnotherLoad() {
    Supplier<TreadCranes> low = Check.after(x -> twoLoads(x, 1));
    Supplier<TreadCranes> just = Check.after(x -> twoLoads(x, 2));
    Check.badState("lay through another load", low, x -> x.lay(0));
    Check.answers("lay up to another load", just, x -> x.lay(0), 1);
  }

  /** Two cranes at 3 have loads over it, one its hook at 1, the other one at a height. */
  private static void twoLoads(TreadCranes x, int height) {
    x.build(3, 2, 1, 8);
    x.build(3, 2, 1, 8);
    Scenes.stand(x, 3, 2, 1);
    x.hoist(0, 2);
    x.take(0);
    x.hoist(1, 1);
    x.take(1);
    x.hoist(0, 1);
    x.hoist(1, height);
  }

  private static void layNeedsNoStrength() {
    Check.answers("lay without walkers", Check.after(x -> {
      Scenes.loaded(x, 1, 60);
      x.man(0, 0);
    }), x -> x.lay(0), 1);
  }
}
