import java.util.function.Supplier;

/** Promises 1 to 5: a new object, land, build, man, mend. */
public final class BarrelsAndCranesTest {
  public static void main(String[] args) {
    aNewObjectIsEmpty();
    aNewObjectHasNoCranesAndBarrels();
    objectsShareNothing();
    landAnswersTheNumber();
    landPutsTheBarrelUponThePlace();
    landOffTheQuay();
    landOfAWrongWeight();
    landWhenThereAre40();
    landWhenThereAre40WithHangingAndBrokenOnes();
    landUpon8();
    landUnderAnEmptyHook();
    landUnderALoad();
    landUnderSeveralHooks();
    buildAnswersTheNumber();
    buildMakesACraneAtRest();
    buildOffTheQuay();
    buildOfAWrongReach();
    buildOfAWrongDrum();
    buildOfWrongWalkers();
    buildWhenThereAre5();
    manAnswersThoseBefore();
    manOfNoCrane();
    manOfWrongWalkers();
    mendAnswersTheOldWear();
    mendOfNoCrane();
    Check.end();
  }

  /** "Creates an empty quay without cranes." */
  private static void aNewObjectIsEmpty() {
    TreadCranes x = new TreadCranes();
    for (int what = 0; what < 7; what++) {
      Check.is("new count(" + what + ")", x.count(what), 0);
    }
    long[] due = {0, -1, 0, 0};
    for (int i = 0; i < 16 * 4; i++) {
      Check.is("new place(" + i / 4 + ", " + i % 4 + ")", x.place(i / 4, i % 4), due[i % 4]);
    }
    Check.is("new mean()", x.mean(), 0.0);
    Check.is("new best(0, 1)", x.best(0, 1), -1);
  }

  private static void aNewObjectHasNoCranesAndBarrels() {
    Check.outOfBounds("new barrel(0, 0)", TreadCranes::new, x -> x.barrel(0, 0));
    Check.outOfBounds("new crane(0, 0)", TreadCranes::new, x -> x.crane(0, 0));
  }

  private static void objectsShareNothing() {
    long due = new TreadCranes().digest();
    TreadCranes used = new TreadCranes();
    TreadCranes beside = new TreadCranes();
    Scenes.mixed(used);
    Check.is("an object beside a used one", beside.digest(), due);
    Check.is("an object made after a used one", new TreadCranes().digest(), due);
  }

  private static void landAnswersTheNumber() {
    TreadCranes x = new TreadCranes();
    Check.is("land(0, 1)", x.land(0, 1), 0);
    Check.is("land(15, 60)", x.land(15, 60), 1);
    Check.is("land(0, 7)", x.land(0, 7), 2);
  }

  private static void landPutsTheBarrelUponThePlace() {
    TreadCranes x = new TreadCranes();
    x.land(0, 1);
    x.land(15, 60);
    x.land(0, 7);
    Check.is("place(0, 0)", x.place(0, 0), 2);
    Check.is("place(0, 1)", x.place(0, 1), 2);
    Check.is("place(0, 2)", x.place(0, 2), 8);
    Check.is("place(15, 0)", x.place(15, 0), 1);
    Check.is("barrel(1, 0)", x.barrel(1, 0), 60);
    Check.is("barrel(1, 1)", x.barrel(1, 1), 15);
    Check.is("landing takes no ticks", x.count(0), 0);
  }

  /** "if place is not 0 to 15". */
  private static void landOffTheQuay() {
    for (int place : Check.outside(0, 15)) {
      Check.outOfBounds("land(" + place + ", 5)", TreadCranes::new, x -> x.land(place, 5));
    }
    Check.answers("land(0, 5)", TreadCranes::new, x -> x.land(0, 5), 0);
    Check.answers("land(15, 5)", TreadCranes::new, x -> x.land(15, 5), 0);
  }

  /** "if weight is not 1 to 60". */
  private static void landOfAWrongWeight() {
    for (int weight : Check.outside(1, 60)) {
      Check.badArgument("land(3, " + weight + ")", TreadCranes::new, x -> x.land(3, weight));
    }
    Check.answers("land(3, 1)", TreadCranes::new, x -> x.land(3, 1), 0);
    Check.answers("land(3, 60)", TreadCranes::new, x -> x.land(3, 60), 0);
  }

  /** "if there are 40". */
  private static void landWhenThereAre40() {
    Supplier<TreadCranes> last = Check.after(x -> Scenes.landed(x, 39));
    Supplier<TreadCranes> full = Check.after(x -> Scenes.landed(x, 40));
    Check.answers("the 40th, at an empty place", last, x -> x.land(9, 1), 39);
    Check.answers("the 40th, upon 7", last, x -> x.land(4, 1), 39);
    Check.badState("the 41st, at an empty place", full, x -> x.land(9, 1));
  }

  /** "There are at most 40 in all": those that hang or are broken too. */
  private static void landWhenThereAre40WithHangingAndBrokenOnes() {
    Supplier<TreadCranes> full = Check.after(x -> {
      Scenes.fallen(x);
      x.hoist(0, 1);
      x.land(0, 5);
      x.take(0);
      for (int i = 0; i < 38; i++) {
        x.land(1 + i / 8, 1);
      }
    });
    Check.answers("in all", full, x -> x.count(1), 40);
    Check.answers("standing", full, x -> x.count(2), 38);
    Check.answers("hanging", full, x -> x.count(3), 1);
    Check.answers("broken", full, x -> x.count(4), 1);
    Check.badState("the 41st", full, x -> x.land(12, 1));
  }

  /** "8 stand there". */
  private static void landUpon8() {
    Supplier<TreadCranes> seven = Check.after(x -> Scenes.stand(x, 4, 7, 1));
    Supplier<TreadCranes> eight = Check.after(x -> Scenes.stand(x, 4, 8, 1));
    Check.answers("land upon 7", seven, x -> x.land(4, 1), 7);
    Check.badState("land upon 8", eight, x -> x.land(4, 1));
    Check.answers("land beside 8", eight, x -> x.land(5, 1), 8);
  }

  /** "or a hook is over this place and would not be high enough then". */
  private static void landUnderAnEmptyHook() {
    for (int height = 1; height <= 8; height++) {
      int h = height;
      Supplier<TreadCranes> wharf = Check.after(x -> {
        x.build(2, 3, 1, 1);
        Scenes.stand(x, 2, h - 1, 1);
        x.hoist(0, h);
      });
      Check.answers("land up to the hook at " + h, wharf, x -> x.land(2, 1), h - 1);
      Supplier<TreadCranes> low = Check.after(x -> {
        x.build(2, 3, 1, 1);
        Scenes.stand(x, 2, h - 1, 1);
        x.hoist(0, h - 1);
      });
      Check.badState("land through the hook at " + (h - 1), low, x -> x.land(2, 1));
      Check.answers("land beside the hook", low, x -> x.land(3, 1), h - 1);
    }
    Supplier<TreadCranes> aside = Check.after(x -> {
      x.build(2, 3, 1, 1);
      x.hoist(0, 0);
      x.turn(0, 3);
    });
    Check.answers("land at the crane, its hook aside", aside, x -> x.land(2, 1), 0);
    Check.badState("land through the hook aside", aside, x -> x.land(3, 1));
  }

  /** "would not be high enough then": with a load it has to be 1 higher. */
  private static void landUnderALoad() {
    Supplier<TreadCranes> low = Check.after(x -> Scenes.loaded(x, 1, 5));
    Supplier<TreadCranes> high = Check.after(x -> {
      Scenes.loaded(x, 1, 5);
      x.hoist(0, 2);
    });
    Check.badState("land through the load", low, x -> x.land(0, 5));
    Check.answers("land up to the load", high, x -> x.land(0, 5), 1);
  }

  /** "a hook is over this place": any one of them. */
  private static void landUnderSeveralHooks() {
    for (int i = 0; i < 5; i++) {
      int low = i;
      Supplier<TreadCranes> wharf = Check.after(x -> {
        Scenes.built(x, 5);
        x.hoist(low, 0);
      });
      Check.badState("land through hook " + low, wharf, x -> x.land(9, 1));
      Check.answers("land after it was raised", wharf, x -> {
        x.hoist(low, 1);
        return x.land(9, 1);
      }, 0);
    }
  }

  private static void buildAnswersTheNumber() {
    TreadCranes x = new TreadCranes();
    for (int i = 0; i < 5; i++) {
      Check.is("build", x.build(15 - i, 1, 1, 0), i);
      Check.is("count(5)", x.count(5), i + 1);
    }
  }

  private static void buildMakesACraneAtRest() {
    TreadCranes x = new TreadCranes();
    Scenes.stand(x, 7, 8, 1);
    x.build(7, 14, 5, 8);
    x.build(6, 15, 6, 0);
    long[] first = {7, 14, 5, 8, 0, 7, 10, -1, 19};
    long[] second = {6, 15, 6, 0, 0, 6, 10, -1, 0};
    for (int what = 0; what < 9; what++) {
      Check.is("crane(0, " + what + ")", x.crane(0, what), first[what]);
      Check.is("crane(1, " + what + ")", x.crane(1, what), second[what]);
    }
    Check.is("building takes no ticks", x.count(0), 0);
  }

  /** "if place is not 0 to 15". */
  private static void buildOffTheQuay() {
    for (int place : Check.outside(0, 15)) {
      Check.outOfBounds("build(" + place + ", 1, 1, 0)", TreadCranes::new, x -> x.build(place, 1, 1, 0));
    }
    Check.answers("build(0, 1, 1, 0)", TreadCranes::new, x -> x.build(0, 1, 1, 0), 0);
    Check.answers("build(15, 1, 1, 0)", TreadCranes::new, x -> x.build(15, 1, 1, 0), 0);
  }

  /** "if reach is not 1 to 15". */
  private static void buildOfAWrongReach() {
    for (int reach : Check.outside(1, 15)) {
      Check.badArgument("build(3, " + reach + ", 1, 0)", TreadCranes::new, x -> x.build(3, reach, 1, 0));
    }
    Check.answers("build(3, 1, 1, 0)", TreadCranes::new, x -> x.build(3, 1, 1, 0), 0);
    Check.answers("build(3, 15, 1, 0)", TreadCranes::new, x -> x.build(3, 15, 1, 0), 0);
  }

  /** "drum is not 1 to 6". */
  private static void buildOfAWrongDrum() {
    for (int drum : Check.outside(1, 6)) {
      Check.badArgument("build(3, 1, " + drum + ", 0)", TreadCranes::new, x -> x.build(3, 1, drum, 0));
    }
    Check.answers("build(3, 1, 1, 0)", TreadCranes::new, x -> x.build(3, 1, 1, 0), 0);
    Check.answers("build(3, 1, 6, 0)", TreadCranes::new, x -> x.build(3, 1, 6, 0), 0);
  }

  /** "or walkers is not 0 to 8". */
  private static void buildOfWrongWalkers() {
    for (int walkers : Check.outside(0, 8)) {
      Check.badArgument("build(3, 1, 1, " + walkers + ")", TreadCranes::new, x -> x.build(3, 1, 1, walkers));
    }
    Check.answers("build(3, 1, 1, 0)", TreadCranes::new, x -> x.build(3, 1, 1, 0), 0);
    Check.answers("build(3, 1, 1, 8)", TreadCranes::new, x -> x.build(3, 1, 1, 8), 0);
  }

  /** "if there are 5". */
  private static void buildWhenThereAre5() {
    Check.answers("the fifth", Check.after(x -> Scenes.built(x, 4)), x -> x.build(9, 1, 1, 0), 4);
    Check.badState("the sixth", Check.after(x -> Scenes.built(x, 5)), x -> x.build(9, 1, 1, 0));
    Check.badState("the sixth elsewhere", Check.after(x -> Scenes.built(x, 5)), x -> x.build(0, 15, 6, 8));
  }

  private static void manAnswersThoseBefore() {
    TreadCranes x = new TreadCranes();
    x.build(0, 5, 5, 3);
    x.build(1, 5, 5, 4);
    Check.is("man(0, 8)", x.man(0, 8), 3);
    Check.is("man(0, 0)", x.man(0, 0), 8);
    Check.is("man(0, 2)", x.man(0, 2), 0);
    Check.is("man(0, 2) again", x.man(0, 2), 2);
    Check.is("crane(0, 3)", x.crane(0, 3), 2);
    Check.is("crane(0, 8)", x.crane(0, 8), 4);
    Check.is("crane(1, 3)", x.crane(1, 3), 4);
    Check.is("manning takes no ticks", x.count(0), 0);
  }

  /** "if there is no such crane". */
  private static void manOfNoCrane() {
    Check.outOfBounds("man without cranes", TreadCranes::new, x -> x.man(0, 1));
    for (int crane : Check.outside(0, 1)) {
      Check.outOfBounds("man(" + crane + ", 1)", Check.after(x -> Scenes.built(x, 2)), x -> x.man(crane, 1));
    }
    for (int crane : Check.outside(0, 4)) {
      Check.outOfBounds("man(" + crane + ", 1) of 5", Check.after(x -> Scenes.built(x, 5)), x -> x.man(crane, 1));
    }
    Check.answers("man of the last", Check.after(x -> Scenes.built(x, 5)), x -> x.man(4, 1), 8);
  }

  /** "if walkers is not 0 to 8". */
  private static void manOfWrongWalkers() {
    Supplier<TreadCranes> wharf = Check.after(x -> x.build(3, 3, 3, 3));
    for (int walkers : Check.outside(0, 8)) {
      Check.badArgument("man(0, " + walkers + ")", wharf, x -> x.man(0, walkers));
    }
    Check.answers("man(0, 0)", wharf, x -> x.man(0, 0), 3);
    Check.answers("man(0, 8)", wharf, x -> x.man(0, 8), 3);
  }

  private static void mendAnswersTheOldWear() {
    for (int worn : new int[] {0, 1, 20, 98, 99}) {
      TreadCranes x = new TreadCranes();
      Scenes.loadedAndWorn(x, 60, worn);
      x.build(0, 5, 1, 8);
      int ticks = x.count(0);
      Check.is("mend of the other", x.mend(1), 0);
      Check.is("mend(0)", x.mend(0), worn);
      Check.is("crane(0, 4) then", x.crane(0, 4), 0);
      Check.is("mend(0) again", x.mend(0), 0);
      Check.is("the load stays", x.crane(0, 7), 1);
      Check.is("mending takes no ticks", x.count(0), ticks);
    }
    Check.answers("mend after a fall", Check.after(Scenes::fallen), x -> x.mend(0), 99);
  }

  /** "if there is no such crane". */
  private static void mendOfNoCrane() {
    Check.outOfBounds("mend without cranes", TreadCranes::new, x -> x.mend(0));
    for (int crane : Check.outside(0, 0)) {
      Check.outOfBounds("mend(" + crane + ")", Check.after(Scenes::fallen), x -> x.mend(crane));
    }
    for (int crane : Check.outside(0, 4)) {
      Check.outOfBounds("mend(" + crane + ") of 5", Check.after(x -> Scenes.built(x, 5)), x -> x.mend(crane));
    }
    Check.answers("mend of the last", Check.after(x -> Scenes.built(x, 5)), x -> x.mend(4), 0);
  }
}
