import java.util.function.Supplier;

/** Promises 10 to 13: place, barrel, crane, count. */
public final class WhatIsThereTest {
  public static void main(String[] args) {
    placeTells();
    placeTellsHowHighItIs();
    placeWithoutABarrelHasNoUppermost();
    placeTellsTheWeights();
    placeTellsTheHooks();
    placeOffTheQuay();
    placeOfAWrongWhat();
    barrelTells();
    barrelTellsThePlaceWhereItStands();
    barrelTellsAllThatStandUponIt();
    barrelThatDoesNotStandHasNoneUponIt();
    barrelTellsTheCrane();
    barrelTellsWhetherItIsBroken();
    barrelOfNoNumber();
    barrelOfAWrongWhat();
    craneTells();
    craneWithoutALoad();
    craneTellsItsStrength();
    craneOfNoNumber();
    craneOfAWrongWhat();
    countTells();
    countTellsTheTicksOfAllCranes();
    countTellsTheHighestPlace();
    countOfAWrongWhat();
    Check.end();
  }

  private static void expectPlace(TreadCranes x, int place, int... due) {
    for (int what = 0; what < 4; what++) {
      Check.is("place(" + place + ", " + what + ")", x.place(place, what), due[what]);
    }
  }

  private static void placeTells() {
    TreadCranes x = new TreadCranes();
    Scenes.mixed(x);
    expectPlace(x, 3, 2, 2, 31, 0);
    int[] below = {1, 1, 60, 1};
    expectPlace(x, 5, below);
    expectPlace(x, 6, 0, -1, 0, 0);
    expectPlace(x, 8, 0, -1, 0, 1);
    x.turn(0, 8);
    expectPlace(x, 5, 1, 1, 60, 0);
    expectPlace(x, 8, 0, -1, 0, 2);
    for (int what = 0; what < 4; what++) {
      int w = what;
      Check.asks("place(5, " + w + ")", Check.after(Scenes::mixed), y -> y.place(5, w), below[w]);
    }
  }

  /** "0 how high it is": 0 to 8. */
  private static void placeTellsHowHighItIs() {
    for (int height = 0; height <= 8; height++) {
      int h = height;
      for (int place : new int[] {0, 15}) {
        Check.answers("height", Check.after(x -> Scenes.stand(x, place, h, 60)), x -> x.place(place, 0), h);
      }
    }
  }

  /** "1 the uppermost barrel, -1 without any": also when it was taken again. */
  private static void placeWithoutABarrelHasNoUppermost() {
    Check.answers("never any", TreadCranes::new, x -> x.place(0, 1), -1);
    Check.answers("barrel 0 alone", Check.after(x -> x.land(0, 1)), x -> x.place(0, 1), 0);
    Check.answers("the only one is taken", Check.after(x -> Scenes.loaded(x, 1, 5)), x -> x.place(0, 1), -1);
    Check.answers("one of two is taken", Check.after(x -> {
      x.build(0, 1, 1, 1);
      Scenes.stand(x, 0, 2, 1);
      x.hoist(0, 2);
      x.take(0);
    }), x -> x.place(0, 1), 0);
  }

  /** "2 the weights that stand there, added". */
  private static void placeTellsTheWeights() {
    Check.answers("none", TreadCranes::new, x -> x.place(15, 2), 0);
    Check.answers("the most", Check.after(x -> Scenes.stand(x, 15, 8, 60)), x -> x.place(15, 2), 480);
    Check.answers("what hangs above does not count", Check.after(x -> Scenes.loaded(x, 1, 5)), x -> x.place(0, 2), 0);
  }

  /** "3 hooks over it": not the cranes that stand there. */
  private static void placeTellsTheHooks() {
    Supplier<TreadCranes> wharf = Check.after(x -> {
      Scenes.built(x, 5);
      x.turn(2, 15);
    });
    Check.answers("hooks over no place of a crane", wharf, x -> x.place(15, 3), 1);
    Check.answers("hooks over the place of the cranes", wharf, x -> x.place(9, 3), 4);
    Check.answers("no hooks", wharf, x -> x.place(0, 3), 0);
    Check.answers("the most", Check.after(x -> Scenes.built(x, 5)), x -> x.place(9, 3), 5);
  }

  /** "if place is not 0 to 15". */
  private static void placeOffTheQuay() {
    for (int place : Check.outside(0, 15)) {
      for (int what = 0; what < 4; what++) {
        int w = what;
        Check.outOfBounds("place(" + place + ", " + w + ")", Check.after(Scenes::mixed), x -> x.place(place, w));
      }
    }
    Check.asks("place(0, 0)", Check.after(Scenes::mixed), x -> x.place(0, 0), 0);
    Check.asks("place(15, 0)", Check.after(Scenes::mixed), x -> x.place(15, 0), 0);
  }

  /** "or what is not 0 to 3". */
  private static void placeOfAWrongWhat() {
    for (int what : Check.outside(0, 3)) {
      Check.outOfBounds("place(3, " + what + ")", Check.after(Scenes::mixed), x -> x.place(3, what));
    }
  }

  private static void expectBarrel(TreadCranes x, int barrel, int... due) {
    for (int what = 0; what < 5; what++) {
      Check.is("barrel(" + barrel + ", " + what + ")", x.barrel(barrel, what), due[what]);
    }
  }

  private static void barrelTells() {
    TreadCranes x = new TreadCranes();
    Scenes.mixed(x);
    expectBarrel(x, 0, 10, 3, 1, -1, 0);
    expectBarrel(x, 1, 60, 5, 0, -1, 0);
    expectBarrel(x, 2, 21, 3, 0, -1, 0);
    int[] hanging = {7, -1, 0, 0, 0};
    expectBarrel(x, 3, hanging);
    expectBarrel(x, 4, 60, -1, 0, -1, 1);
    for (int what = 0; what < 5; what++) {
      int w = what;
      Check.asks("barrel(3, " + w + ")", Check.after(Scenes::mixed), y -> y.barrel(3, w), hanging[w]);
    }
  }

  /** "1 the place where it stands, -1 otherwise": hanging and broken. */
  private static void barrelTellsThePlaceWhereItStands() {
    Check.answers("at 0", Check.after(x -> x.land(0, 1)), x -> x.barrel(0, 1), 0);
    Check.answers("at 15", Check.after(x -> x.land(15, 1)), x -> x.barrel(0, 1), 15);
    Check.answers("hanging", Check.after(x -> Scenes.loaded(x, 1, 1)), x -> x.barrel(0, 1), -1);
    Check.answers("broken", Check.after(Scenes::fallen), x -> x.barrel(0, 1), -1);
    Check.answers("set down elsewhere", Check.after(x -> {
      Scenes.loaded(x, 1, 1);
      x.turn(0, 9);
      x.lay(0);
    }), x -> x.barrel(0, 1), 9);
  }

  /** "2 barrels that stand upon it": all of them, 0 to 7. */
  private static void barrelTellsAllThatStandUponIt() {
    for (int i = 0; i < 8; i++) {
      int barrel = i;
      Check.answers("upon barrel " + i, Check.after(x -> Scenes.stand(x, 3, 8, 1)), x -> x.barrel(barrel, 2), 7 - i);
    }
    Check.answers("after one was taken", Check.after(x -> {
      x.build(3, 1, 1, 1);
      Scenes.stand(x, 3, 3, 1);
      x.hoist(0, 3);
      x.take(0);
    }), x -> x.barrel(0, 2), 1);
  }

  /** "0 if it does not stand": though barrels came to the place where it stood. */
  private static void barrelThatDoesNotStandHasNoneUponIt() {
    Check.answers("hanging over one", Check.after(x -> {
      Scenes.loaded(x, 1, 5);
      x.hoist(0, 9);
      Scenes.stand(x, 0, 3, 1);
    }), x -> x.barrel(0, 2), 0);
    Check.answers("broken", Check.after(x -> {
      Scenes.fallen(x);
      Scenes.stand(x, 0, 3, 1);
    }), x -> x.barrel(0, 2), 0);
  }

  /** "3 the crane from which it hangs, -1 otherwise": standing, set down and broken. */
  private static void barrelTellsTheCrane() {
    for (int i = 0; i < 5; i++) {
      int crane = i;
      Supplier<TreadCranes> hanging = Check.after(x -> {
        Scenes.built(x, 5);
        x.land(9, 1);
        x.hoist(crane, 1);
        x.take(crane);
      });
      Check.answers("hanging from " + crane, hanging, x -> x.barrel(0, 3), crane);
      Check.answers("set down by " + crane, hanging, x -> {
        x.lay(crane);
        return x.barrel(0, 3);
      }, -1);
    }
    Check.answers("standing", Check.after(x -> x.land(3, 1)), x -> x.barrel(0, 3), -1);
    Check.answers("broken", Check.after(Scenes::fallen), x -> x.barrel(0, 3), -1);
  }

  /** "4 1 if it is broken, else 0": standing and hanging. */
  private static void barrelTellsWhetherItIsBroken() {
    Check.answers("standing", Check.after(x -> x.land(3, 1)), x -> x.barrel(0, 4), 0);
    Check.answers("hanging", Check.after(x -> Scenes.loaded(x, 1, 1)), x -> x.barrel(0, 4), 0);
    Check.answers("broken", Check.after(Scenes::fallen), x -> x.barrel(0, 4), 1);
    Check.answers("another one", Check.after(x -> {
      Scenes.fallen(x);
      x.land(0, 60);
    }), x -> x.barrel(1, 4), 0);
  }

  /** "if there is no such barrel". */
  private static void barrelOfNoNumber() {
    Check.outOfBounds("barrel(0, 0) without barrels", TreadCranes::new, x -> x.barrel(0, 0));
    for (int barrel : Check.outside(0, 4)) {
      for (int what = 0; what < 5; what++) {
        int w = what;
        Check.outOfBounds("barrel(" + barrel + ", " + w + ")", Check.after(Scenes::mixed), x -> x.barrel(barrel, w));
      }
    }
    Supplier<TreadCranes> full = Check.after(x -> Scenes.landed(x, 40));
    for (int barrel : Check.outside(0, 39)) {
      Check.outOfBounds("barrel(" + barrel + ", 0) of 40", full, x -> x.barrel(barrel, 0));
    }
    Check.asks("barrel(39, 0)", full, x -> x.barrel(39, 0), 1);
    Check.asks("barrel(0, 0)", full, x -> x.barrel(0, 0), 1);
  }

  /** "or what is not 0 to 4". */
  private static void barrelOfAWrongWhat() {
    for (int what : Check.outside(0, 4)) {
      Check.outOfBounds("barrel(0, " + what + ")", Check.after(Scenes::mixed), x -> x.barrel(0, what));
    }
  }

  private static void expectCrane(TreadCranes x, int crane, int... due) {
    for (int what = 0; what < 9; what++) {
      Check.is("crane(" + crane + ", " + what + ")", x.crane(crane, what), due[what]);
    }
  }

  private static void craneTells() {
    TreadCranes x = new TreadCranes();
    Scenes.mixed(x);
    int[] first = {6, 4, 5, 3, 0, 5, 4, 3, 7};
    expectCrane(x, 0, first);
    expectCrane(x, 1, 8, 3, 1, 8, 99, 8, 20, -1, 96);
    for (int what = 0; what < 9; what++) {
      int w = what;
      Check.asks("crane(0, " + w + ")", Check.after(Scenes::mixed), y -> y.crane(0, w), first[w]);
    }
  }

  /** "7 its load, -1 without one": barrel 0 is one. */
  private static void craneWithoutALoad() {
    Check.answers("new", Check.after(x -> x.build(3, 1, 1, 1)), x -> x.crane(0, 7), -1);
    Check.answers("barrel 0", Check.after(x -> Scenes.loaded(x, 1, 1)), x -> x.crane(0, 7), 0);
    Check.answers("after setting it down", Check.after(x -> {
      Scenes.loaded(x, 1, 1);
      x.lay(0);
    }), x -> x.crane(0, 7), -1);
    Check.answers("after a fall", Check.after(Scenes::fallen), x -> x.crane(0, 7), -1);
  }

  /** "8 its strength": of the walkers that it has now. */
  private static void craneTellsItsStrength() {
    TreadCranes x = new TreadCranes();
    x.build(3, 1, 5, 8);
    int[] due = {0, 2, 4, 7, 9, 12, 14, 16, 19};
    for (int walkers = 0; walkers <= 8; walkers++) {
      x.man(0, walkers);
      Check.is("strength of " + walkers + " with drum 5", x.crane(0, 8), due[walkers]);
    }
    Check.answers("the most", Check.after(y -> y.build(3, 1, 1, 8)), y -> y.crane(0, 8), 96);
  }

  /** "if there is no such crane". */
  private static void craneOfNoNumber() {
    Check.outOfBounds("crane(0, 0) without cranes", TreadCranes::new, x -> x.crane(0, 0));
    for (int crane : Check.outside(0, 1)) {
      for (int what = 0; what < 9; what++) {
        int w = what;
        Check.outOfBounds("crane(" + crane + ", " + w + ")", Check.after(Scenes::mixed), x -> x.crane(crane, w));
      }
    }
    Supplier<TreadCranes> full = Check.after(x -> Scenes.built(x, 5));
    for (int crane : Check.outside(0, 4)) {
      Check.outOfBounds("crane(" + crane + ", 0) of 5", full, x -> x.crane(crane, 0));
    }
    Check.asks("crane(4, 0)", full, x -> x.crane(4, 0), 9);
    Check.asks("crane(0, 0)", full, x -> x.crane(0, 0), 9);
  }

  /** "or what is not 0 to 8". */
  private static void craneOfAWrongWhat() {
    for (int what : Check.outside(0, 8)) {
      Check.outOfBounds("crane(0, " + what + ")", Check.after(Scenes::mixed), x -> x.crane(0, what));
    }
  }

  private static void countTells() {
    // crane 0: 2 down, 1 up, 1 aside; crane 1: 9 down, 19 up, 19 down, 19 up
    long[] due = {70, 5, 3, 1, 1, 2, 2};
    for (int what = 0; what < 7; what++) {
      int w = what;
      Check.asks("count(" + w + ")", Check.after(Scenes::mixed), x -> x.count(w), due[w]);
    }
  }

  /** "0 ticks that all cranes took, added": what a refused call would take is not. */
  private static void countTellsTheTicksOfAllCranes() {
    TreadCranes x = new TreadCranes();
    Scenes.built(x, 5);
    int sum = 0;
    for (int crane = 0; crane < 5; crane++) {
      int c = crane;
      sum += x.turn(crane, crane);
      sum += x.hoist(crane, 3 * crane);
      Check.answer(() -> x.turn(c, 16));
      Check.answer(() -> x.hoist(c, 21));
      Check.answer(() -> x.take(c));
      Check.is("ticks", x.count(0), sum);
    }
    Check.is("ticks of five", sum, 9 + 8 + 7 + 6 + 5 + 10 + 7 + 4 + 1 + 2);
  }

  /** "6 how high the highest place is": 0 without barrels, each place can be it. */
  private static void countTellsTheHighestPlace() {
    Check.answers("none", TreadCranes::new, x -> x.count(6), 0);
    for (int place = 0; place < 16; place++) {
      int p = place;
      Supplier<TreadCranes> wharf = Check.after(x -> {
        x.land((p + 1) % 16, 1);
        x.land((p + 15) % 16, 1);
        Scenes.stand(x, p, 2, 1);
      });
      Check.answers("place " + p, wharf, x -> x.count(6), 2);
    }
    Check.answers("the most", Check.after(x -> Scenes.stand(x, 15, 8, 1)), x -> x.count(6), 8);
    Check.answers("all taken", Check.after(x -> Scenes.loaded(x, 1, 1)), x -> x.count(6), 0);
  }

  /** "if what is not 0 to 6". */
  private static void countOfAWrongWhat() {
    for (int what : Check.outside(0, 6)) {
      Check.outOfBounds("count(" + what + ")", Check.after(Scenes::mixed), x -> x.count(what));
      Check.outOfBounds("count(" + what + ") of nothing", TreadCranes::new, x -> x.count(what));
    }
  }
}
