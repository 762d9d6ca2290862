import java.math.BigInteger;
import java.util.function.Supplier;

/** Promises 14 to 19: move, best, lasts, within, mean, digest. */
public final class WhatWouldBeTest {
  public static void main(String[] args) {
    moveAddsItsParts();
    moveRaisesFirstOnlyAsFarAsNeedBe();
    moveLooksAtTheWayWithTheBarrel();
    moveRoundsEachWindingByItself();
    moveLooksFromTheHookNotFromTheCrane();
    moveOfNoCrane();
    moveOffTheQuay();
    moveWithALoad();
    moveToTheSamePlace();
    moveOutOfReach();
    moveWhereNoBarrelStands();
    moveUpon8();
    moveOfABarrelThatIsTooHeavy();
    moveOfABarrelThatWouldFall();
    moveWearsByItsLoadedTicksAlone();
    moveDoesNotMindOtherHooks();
    bestIsTheQuickest();
    bestOfSeveralIsTheOneWithTheSmallestNumber();
    bestIfNoneCan();
    bestOffTheQuay();
    lastsCountsTicks();
    lastsOnAWornBrake();
    lastsTillItFalls();
    lastsAsksNeitherDrumNorStrength();
    lastsOfNoCrane();
    lastsOfAWrongWeight();
    withinCountsWhatCouldBeFetched();
    withinTheReach();
    withinTheStrength();
    withinDoesNotCountWhatDoesNotStand();
    withinOfNoCrane();
    meanOfNoBarrels();
    meanLeavesOutBrokenBarrels();
    meanIsNotCut();
    digestOfAnEmptyQuay();
    digestGoesOverAllAnswers();
    digestWrapsAround();
    Check.end();
  }

  private static void moveAddsItsParts() {
    Supplier<TreadCranes> wharf = Check.after(x -> {
      x.build(5, 10, 3, 8);
      Scenes.stand(x, 3, 2, 10);
    });
    // turn 2, down from 10 to 2 in 3, turn 4, down from 2 to 1 in 1
    Check.asks("move(0, 3, 7)", wharf, x -> x.move(0, 3, 7), 2 + 3 + 0 + 4 + 1);
    Supplier<TreadCranes> level = Check.after(x -> {
      x.build(5, 10, 3, 8);
      Scenes.stand(x, 3, 2, 10);
      x.land(7, 10);
    });
    Check.asks("laid as high as it was taken", level, x -> x.move(0, 3, 7), 2 + 3 + 0 + 4 + 0);
    Check.asks("move(0, 7, 3)", level, x -> x.move(0, 7, 3), 2 + 3 + 1 + 4 + 0);
  }

  /** "hoisting as far as need be for the way to the first place (not at all, if it is high enough)". */
  private static void moveRaisesFirstOnlyAsFarAsNeedBe() {
    // up to 3 for the way to 3, turn 2, down to 1, taken, up to 4, turn 2, down to 1
    Check.asks("too low", Check.after(x -> lowBesideThree(x, 1)), x -> x.move(0, 3, 5), 2 + 2 + 2 + 3 + 2 + 3);
    Check.asks("too low by 1", Check.after(x -> lowBesideThree(x, 2)), x -> x.move(0, 3, 5), 1 + 2 + 2 + 3 + 2 + 3);
    Check.asks("just high enough", Check.after(x -> lowBesideThree(x, 3)), x -> x.move(0, 3, 5), 0 + 2 + 2 + 3 + 2 + 3);
    Check.asks("higher", Check.after(x -> lowBesideThree(x, 4)), x -> x.move(0, 3, 5), 0 + 2 + 3 + 3 + 2 + 3);
    // up to 3, turn 1, taken at once, level aside, down to 2
    Check.asks("to the high one", Check.after(x -> lowBesideThree(x, 1)), x -> x.move(0, 4, 3), 2 + 1 + 0 + 0 + 1 + 1);
  }

  /** A crane at 5 with its hook at a height; 3 barrels stand at 4, 1 at 3. */
  private static void lowBesideThree(TreadCranes x, int hook) {
    x.build(5, 10, 1, 8);
    x.hoist(0, hook);
    Scenes.stand(x, 4, 3, 10);
    Scenes.stand(x, 3, 1, 10);
  }

  /** "hoisting as far as need be for the way": with the barrel, which the first place has lost. */
  private static void moveLooksAtTheWayWithTheBarrel() {
    TreadCranes x = new TreadCranes();
    x.build(0, 15, 2, 8);
    Scenes.stand(x, 0, 2, 10);
    Scenes.stand(x, 2, 8, 10);
    // down from 10 to 2, up to 9, aside, down to 1
    Check.is("move(0, 0, 4)", x.move(0, 0, 4), 4 + 4 + 4 + 4);
    Check.is("move(0, 0, 1)", x.move(0, 0, 1), 4 + 0 + 1 + 1);
    Check.is("move(0, 2, 0)", x.move(0, 2, 0), 2 + 1 + 0 + 2 + 3);
    Check.is("past the next place", x.move(0, 2, 4), 2 + 1 + 0 + 2 + 4);
    Scenes.stand(x, 1, 1, 10);
    Check.is("past the next place, the highest", x.move(0, 1, 4), 1 + 5 + 4 + 3 + 4);
    Scenes.stand(x, 3, 1, 10);
    Check.is("back past the next place, the highest", x.move(0, 3, 0), 3 + 5 + 4 + 3 + 3);
    Scenes.stand(x, 4, 7, 10);
    Check.is("laid upon 7", x.move(0, 0, 4), 4 + 4 + 4 + 1);
  }

  /** "lifting and lowering by n take n / drum, rounded up": each hoisting and lowering of a move. */
  private static void moveRoundsEachWindingByItself() {
    Supplier<TreadCranes> wharf = Check.after(x -> {
      x.build(5, 10, 4, 8);
      x.hoist(0, 1);
      Scenes.stand(x, 4, 3, 10);
      Scenes.stand(x, 3, 2, 10);
      Scenes.stand(x, 2, 4, 10);
    });
    // up by 2, aside by 2, down by 1, up by 3, aside by 2, down by 4
    Check.asks("past a higher one", wharf, x -> x.move(0, 3, 1), 1 + 2 + 1 + 1 + 2 + 1);
    // up by 2, aside by 2, down by 1, up by 2, aside by 2, down by 3
    Check.asks("past another one", wharf, x -> x.move(0, 3, 5), 1 + 2 + 1 + 1 + 2 + 1);
  }

  /** "the way to the first place": from the hook, and the crane's own place may be off the way. */
  private static void moveLooksFromTheHookNotFromTheCrane() {
    Supplier<TreadCranes> wharf = Check.after(x -> {
      x.build(5, 10, 1, 8);
      Scenes.stand(x, 5, 8, 10);
      x.turn(0, 7);
      x.hoist(0, 1);
      Scenes.stand(x, 9, 1, 10);
    });
    Check.asks("move(0, 9, 7)", wharf, x -> x.move(0, 9, 7), 0 + 2 + 0 + 0 + 2 + 0);
    Check.asks("move(0, 9, 4)", wharf, x -> x.move(0, 9, 4), 0 + 2 + 0 + 8 + 5 + 8);
    Check.asks("move(0, 5, 6)", wharf, x -> x.move(0, 5, 6), 7 + 2 + 0 + 0 + 1 + 7);
  }

  /** A crane and a barrel of its strength, 12: it can move it from 5 to any place from 2 to 8. */
  private static void movable(TreadCranes x) {
    x.build(5, 3, 1, 1);
    x.land(5, 12);
  }

  /** "if there is no such crane". */
  private static void moveOfNoCrane() {
    Check.outOfBounds("move without cranes", Check.after(x -> x.land(5, 1)), x -> x.move(0, 5, 6));
    for (int crane : Check.outside(0, 0)) {
      Check.outOfBounds("move(" + crane + ", 5, 6)", Check.after(WhatWouldBeTest::movable), x -> x.move(crane, 5, 6));
      Check.outOfBounds("move(" + crane + ", 5, 5)", Check.after(WhatWouldBeTest::movable), x -> x.move(crane, 5, 5));
    }
    Supplier<TreadCranes> five = Check.after(x -> {
      Scenes.built(x, 5);
      x.land(9, 1);
    });
    for (int crane : Check.outside(0, 4)) {
      Check.outOfBounds("move(" + crane + ", 9, 8) of 5", five, x -> x.move(crane, 9, 8));
    }
    Check.asks("move of the last", five, x -> x.move(4, 9, 8), 9 + 1);
  }

  /** "or from or to is not 0 to 15". */
  private static void moveOffTheQuay() {
    Supplier<TreadCranes> wharf = Check.after(x -> {
      x.build(8, 15, 1, 8);
      x.land(0, 1);
      x.land(15, 1);
    });
    for (int place : Check.outside(0, 15)) {
      Check.outOfBounds("move(0, " + place + ", 1)", wharf, x -> x.move(0, place, 1));
      Check.outOfBounds("move(0, 0, " + place + ")", wharf, x -> x.move(0, 0, place));
      Check.outOfBounds("move(0, 15, " + place + ")", wharf, x -> x.move(0, 15, place));
      Check.outOfBounds("move(0, " + place + ", " + place + ")", wharf, x -> x.move(0, place, place));
    }
    Check.asks("move(0, 0, 15)", wharf, x -> x.move(0, 0, 15), 8 + 9 + 1 + 15 + 0);
    Check.asks("move(0, 15, 0)", wharf, x -> x.move(0, 15, 0), 7 + 9 + 1 + 15 + 0);
  }

  /** "it has a load". */
  private static void moveWithALoad() {
    Supplier<TreadCranes> loaded = Check.after(x -> {
      Scenes.loaded(x, 1, 1);
      x.land(1, 1);
    });
    Check.asks("with a load", loaded, x -> x.move(0, 1, 2), -1);
    Check.answers("after it was set down", loaded, x -> {
      x.lay(0);
      return x.move(0, 1, 2);
    }, 0 + 1 + 0 + 0 + 1 + 0);
  }

  /** "both places are the same". */
  private static void moveToTheSamePlace() {
    Check.asks("from 5 to 5", Check.after(WhatWouldBeTest::movable), x -> x.move(0, 5, 5), -1);
    Check.asks("from 5 to 6", Check.after(WhatWouldBeTest::movable), x -> x.move(0, 5, 6), 9 + 0 + 0 + 1 + 0 + 0);
  }

  /** "one is out of reach": the first or the other one, to the left or to the right. */
  private static void moveOutOfReach() {
    Supplier<TreadCranes> wharf = Check.after(x -> {
      movable(x);
      for (int place : new int[] {1, 2, 8, 9}) {
        x.land(place, 1);
      }
    });
    Check.asks("from 1", wharf, x -> x.move(0, 1, 5), -1);
    Check.asks("from 9", wharf, x -> x.move(0, 9, 5), -1);
    Check.asks("to 1", wharf, x -> x.move(0, 5, 1), -1);
    Check.asks("to 9", wharf, x -> x.move(0, 5, 9), -1);
    Check.asks("from 2, as far as the reach", wharf, x -> x.move(0, 2, 5), 3 + 9 + 1 + 3 + 0);
    Check.asks("from 8, as far as the reach", wharf, x -> x.move(0, 8, 5), 3 + 9 + 1 + 3 + 0);
    Check.asks("to 2, as far as the reach", wharf, x -> x.move(0, 5, 2), 9 + 1 + 3 + 0);
    Check.asks("to 8, as far as the reach", wharf, x -> x.move(0, 5, 8), 9 + 1 + 3 + 0);
  }

  /** "no barrel stands at the first one". */
  private static void moveWhereNoBarrelStands() {
    Check.asks("from an empty place", Check.after(WhatWouldBeTest::movable), x -> x.move(0, 6, 5), -1);
    Check.asks("between empty places", Check.after(WhatWouldBeTest::movable), x -> x.move(0, 6, 7), -1);
    Check.asks("without any barrel", Check.after(x -> x.build(5, 3, 1, 8)), x -> x.move(0, 5, 6), -1);
  }

  /** "8 stand at the other one". */
  private static void moveUpon8() {
    Supplier<TreadCranes> eight = Check.after(x -> {
      movable(x);
      Scenes.stand(x, 6, 8, 1);
    });
    Supplier<TreadCranes> seven = Check.after(x -> {
      movable(x);
      Scenes.stand(x, 6, 7, 1);
    });
    Check.asks("upon 8", eight, x -> x.move(0, 5, 6), -1);
    Check.asks("upon 7", seven, x -> x.move(0, 5, 6), 9 + 7 + 1 + 0);
    Check.asks("from 8", eight, x -> x.move(0, 6, 5), 1 + 2 + 0 + 1 + 6);
  }

  /** "it cannot lift the barrel": the uppermost one counts, even if no lifting is needed. */
  private static void moveOfABarrelThatIsTooHeavy() {
    Supplier<TreadCranes> heavy = Check.after(x -> {
      x.build(5, 3, 1, 1);
      x.land(5, 12);
      x.land(5, 13);
    });
    Supplier<TreadCranes> fine = Check.after(x -> {
      x.build(5, 3, 1, 1);
      x.land(5, 13);
      x.land(5, 12);
    });
    Check.asks("heavier than the strength", heavy, x -> x.move(0, 5, 6), -1);
    Check.asks("as heavy as the strength", fine, x -> x.move(0, 5, 6), 8 + 0 + 1 + 1);
    Check.asks("without walkers", Check.after(x -> {
      movable(x);
      x.man(0, 0);
    }), x -> x.move(0, 5, 6), -1);
  }

  /** "or this would fall": a wear of just 99 is not too much, one of 100 is. */
  private static void moveOfABarrelThatWouldFall() {
    int[][] ways = {{1, 1}, {20, 2}, {40, 3}, {60, 4}};
    for (int[] way : ways) {
      // up to 4, aside by 2 past 3 barrels, down by 3
      Check.asks("lowered, worn by just 99", Check.after(x -> wornPastThree(x, way[0], 99 - 3 * way[1])),
          x -> x.move(0, 0, 2), 3 + 2 + 3);
      Check.asks("lowered, worn by just 100", Check.after(x -> wornPastThree(x, way[0], 100 - 3 * way[1])),
          x -> x.move(0, 0, 2), -1);
      Check.asks("not lowered, worn by 99", Check.after(x -> wornPastThree(x, way[0], 99)),
          x -> x.move(0, 0, 1), 3 + 1 + 0);
      Check.answers("lowered, mended", Check.after(x -> wornPastThree(x, way[0], 99)), x -> {
        x.mend(0);
        return x.move(0, 0, 2);
      }, 3 + 2 + 3);
    }
  }

  /** A crane with its hook just above a barrel at 0, and a worn brake; at 1 stand 3. */
  private static void wornPastThree(TreadCranes x, int weight, int worn) {
    Scenes.loadedAndWorn(x, weight, worn);
    x.lay(0);
    Scenes.stand(x, 1, 3, 1);
  }

  /** "Lowering a load wears the brake": in its ticks, and not what is lowered without the load. */
  private static void moveWearsByItsLoadedTicksAlone() {
    Supplier<TreadCranes> high = Check.after(x -> {
      wornPastThree(x, 1, 96);
      x.hoist(0, 20);
    });
    Check.asks("lowered by 19 without it, by 3 with it", high, x -> x.move(0, 0, 2), 19 + 3 + 2 + 3);
    // drum 4: weight 1, worn by 98
    Supplier<TreadCranes> drum = Check.after(x -> {
      Scenes.loaded(x, 4, 1);
      for (int i = 0; i < 19; i++) {
        x.hoist(0, 20);
        x.hoist(0, 1);
      }
      x.hoist(0, 13);
      x.hoist(0, 1);
      x.lay(0);
      Scenes.stand(x, 1, 3, 1);
    });
    Check.answers("wear of 19 * 5 + 3 ticks", drum, x -> x.crane(0, 4), 98);
    Check.asks("lowered by 3 in a tick", drum, x -> x.move(0, 0, 2), 1 + 2 + 1);
    Check.answers("lowered by 7 in two ticks", drum, x -> {
      Scenes.stand(x, 1, 4, 1);
      return x.move(0, 0, 2);
    }, -1);
  }

  /** "hooks of other cranes do not matter". */
  private static void moveDoesNotMindOtherHooks() {
    Supplier<TreadCranes> wharf = Check.after(x -> {
      x.build(0, 5, 1, 8);
      x.build(2, 5, 1, 8);
      x.land(0, 1);
      x.hoist(1, 0);
      x.hoist(0, 1);
    });
    Check.asks("below the other hook", wharf, x -> x.move(0, 0, 2), 2);
    Check.asks("by the other one", wharf, x -> x.move(1, 0, 2), 1 + 2 + 0 + 0 + 2 + 0);
  }

  private static void bestIsTheQuickest() {
    TreadCranes x = new TreadCranes();
    Scenes.stand(x, 4, 1, 20);
    x.build(4, 1, 6, 8);
    x.build(4, 2, 1, 8);
    x.build(4, 3, 6, 8);
    x.build(5, 4, 3, 8);
    x.build(5, 4, 3, 8);
    Check.is("too weak", x.move(0, 4, 5), -1);
    Check.is("the slow", x.move(1, 4, 5), 9 + 1);
    Check.is("the quick", x.move(3, 4, 5), 1 + 3 + 1);
    Check.is("the smaller number of two", x.best(4, 5), 3);
    x.turn(3, 6);
    Check.is("the quicker of two", x.best(4, 5), 4);
    x.hoist(1, 1);
    Check.is("the slow is near", x.best(4, 5), 1);
    Check.is("out of its reach", x.best(4, 7), 4);
  }

  /** "of several the one with the smallest number". */
  private static void bestOfSeveralIsTheOneWithTheSmallestNumber() {
    Supplier<TreadCranes> five = Check.after(x -> {
      x.land(9, 1);
      Scenes.built(x, 5);
    });
    Check.asks("five alike", five, x -> x.best(9, 8), 0);
    for (int i = 0; i < 5; i++) {
      int able = i;
      Check.answers("from " + able + " on", five, x -> {
        for (int crane = 0; crane < able; crane++) {
          x.man(crane, 0);
        }
        return x.best(9, 8);
      }, able);
      Check.answers(able + " is quicker", five, x -> {
        x.hoist(able, 5);
        return x.best(9, 8);
      }, able);
      Check.answers(able + " is slower", five, x -> {
        x.hoist(able, 11);
        return x.best(9, 8);
      }, able == 0 ? 1 : 0);
    }
  }

  /** "-1 if none can": for any of the reasons that move() has. */
  private static void bestIfNoneCan() {
    Check.asks("without cranes", Check.after(x -> x.land(5, 1)), x -> x.best(5, 6), -1);
    Check.asks("it can", Check.after(WhatWouldBeTest::movable), x -> x.best(5, 6), 0);
    Check.asks("the same place", Check.after(WhatWouldBeTest::movable), x -> x.best(5, 5), -1);
    Check.asks("out of reach", Check.after(WhatWouldBeTest::movable), x -> x.best(5, 9), -1);
    Check.asks("no barrel", Check.after(WhatWouldBeTest::movable), x -> x.best(6, 5), -1);
    Check.answers("8 stand there", Check.after(WhatWouldBeTest::movable), x -> {
      Scenes.stand(x, 6, 8, 1);
      return x.best(5, 6);
    }, -1);
    Check.answers("too heavy", Check.after(WhatWouldBeTest::movable), x -> {
      x.man(0, 0);
      return x.best(5, 6);
    }, -1);
    Check.asks("with a load", Check.after(x -> {
      Scenes.loaded(x, 1, 1);
      x.land(1, 1);
    }), x -> x.best(1, 2), -1);
    Check.asks("it would fall", Check.after(x -> wornPastThree(x, 1, 97)), x -> x.best(0, 2), -1);
  }

  /** "if from or to is not 0 to 15". */
  private static void bestOffTheQuay() {
    for (int place : Check.outside(0, 15)) {
      for (int cranes : new int[] {0, 1, 5}) {
        Supplier<TreadCranes> wharf = Check.after(x -> {
          Scenes.built(x, cranes);
          x.land(9, 1);
        });
        Check.outOfBounds("best(" + place + ", 1)", wharf, x -> x.best(place, 1));
        Check.outOfBounds("best(9, " + place + ")", wharf, x -> x.best(9, place));
        Check.outOfBounds("best(" + place + ", " + place + ")", wharf, x -> x.best(place, place));
      }
    }
    Supplier<TreadCranes> ends = Check.after(x -> {
      Scenes.built(x, 1);
      x.land(0, 1);
      x.land(15, 1);
    });
    Check.asks("best(0, 15)", ends, x -> x.best(0, 15), 0);
    Check.asks("best(15, 0)", ends, x -> x.best(15, 0), 0);
  }

  private static void lastsCountsTicks() {
    int[] weights = {1, 19, 20, 39, 40, 59, 60};
    int[] due = {99, 99, 49, 49, 33, 33, 24};
    for (int i = 0; i < weights.length; i++) {
      int weight = weights[i];
      Check.asks("lasts(0, " + weight + ")", Check.after(x -> x.build(0, 5, 1, 8)), x -> x.lasts(0, weight), due[i]);
    }
  }

  /** "a brake, worn by 0 (at first) to 99": what is left of it counts. */
  private static void lastsOnAWornBrake() {
    int[][] dues = {{95, 4, 2, 1, 1}, {96, 3, 1, 1, 0}, {97, 2, 1, 0, 0}, {98, 1, 0, 0, 0}, {99, 0, 0, 0, 0}};
    for (int[] due : dues) {
      for (int wear = 1; wear <= 4; wear++) {
        int weight = wear == 1 ? 1 : 20 * (wear - 1);
        Check.asks("worn by " + due[0] + ", lasts(0, " + weight + ")",
            Check.after(x -> Scenes.loadedAndWorn(x, 60, due[0])), x -> x.lasts(0, weight), due[wear]);
      }
    }
    Check.asks("after a fall", Check.after(Scenes::fallen), x -> x.lasts(0, 1), 0);
  }

  /** "till it falls": so many ticks go well, and the next one does not. */
  private static void lastsTillItFalls() {
    for (int weight : new int[] {1, 19, 20, 39, 40, 59, 60}) {
      TreadCranes x = new TreadCranes();
      Scenes.loaded(x, 1, weight);
      int left = x.lasts(0, weight);
      while (left > 0) {
        int way = Math.min(left, 19);
        x.hoist(0, 1 + way);
        Check.is("it hangs still", x.hoist(0, 1), way);
        left -= way;
        Check.is("ticks left", x.lasts(0, weight), left);
      }
      x.hoist(0, 2);
      Check.is("the next tick", x.hoist(0, 1), -1);
    }
  }

  private static void lastsAsksNeitherDrumNorStrength() {
    Check.asks("drum 6", Check.after(x -> x.build(0, 5, 6, 8)), x -> x.lasts(0, 60), 24);
    Check.asks("no walkers", Check.after(x -> x.build(0, 5, 1, 0)), x -> x.lasts(0, 60), 24);
    Check.asks("with another load", Check.after(x -> Scenes.loaded(x, 1, 60)), x -> x.lasts(0, 1), 99);
  }

  /** "if there is no such crane". */
  private static void lastsOfNoCrane() {
    Check.outOfBounds("lasts without cranes", TreadCranes::new, x -> x.lasts(0, 1));
    for (int crane : Check.outside(0, 1)) {
      Check.outOfBounds("lasts(" + crane + ", 1)", Check.after(Scenes::mixed), x -> x.lasts(crane, 1));
    }
    Supplier<TreadCranes> five = Check.after(x -> Scenes.built(x, 5));
    for (int crane : Check.outside(0, 4)) {
      Check.outOfBounds("lasts(" + crane + ", 1) of 5", five, x -> x.lasts(crane, 1));
    }
    Check.asks("lasts of the last", five, x -> x.lasts(4, 1), 99);
  }

  /** "if weight is not 1 to 60". */
  private static void lastsOfAWrongWeight() {
    for (int weight : Check.outside(1, 60)) {
      Check.badArgument("lasts(0, " + weight + ")", Check.after(Scenes::mixed), x -> x.lasts(0, weight));
      Check.badArgument("lasts(1, " + weight + ")", Check.after(Scenes::mixed), x -> x.lasts(1, weight));
    }
    Check.asks("lasts(0, 1)", Check.after(Scenes::mixed), x -> x.lasts(0, 1), 99);
    Check.asks("lasts(0, 60)", Check.after(Scenes::mixed), x -> x.lasts(0, 60), 24);
  }

  private static void withinCountsWhatCouldBeFetched() {
    Check.asks("no barrels", Check.after(x -> x.build(5, 2, 1, 1)), x -> x.within(0), 0);
    Supplier<TreadCranes> wharf = Check.after(x -> {
      x.build(5, 2, 1, 1);
      x.land(3, 12);
      x.land(3, 60);
      x.land(3, 1);
      x.land(7, 13);
      x.land(5, 5);
    });
    Check.asks("those below heavy ones too", wharf, x -> x.within(0), 3);
    Check.answers("all of 40", Check.after(x -> {
      Scenes.landed(x, 40);
      x.build(0, 4, 1, 8);
    }), x -> x.within(0), 40);
    Check.answers("wherever the hook is", wharf, x -> {
      x.turn(0, 7);
      x.hoist(0, 20);
      return x.within(0);
    }, 3);
  }

  /** "that stand within its reach": as far as it is, to both sides. */
  private static void withinTheReach() {
    for (int place = 0; place < 16; place++) {
      int p = place;
      Check.asks("a barrel at " + p, Check.after(x -> {
        x.build(5, 2, 1, 1);
        x.land(p, 1);
      }), x -> x.within(0), p >= 3 && p <= 7 ? 1 : 0);
    }
  }

  /** "and which it can lift": as heavy as its strength. */
  private static void withinTheStrength() {
    Supplier<TreadCranes> wharf = Check.after(x -> {
      x.build(5, 2, 1, 1);
      x.land(5, 12);
      x.land(5, 13);
    });
    Check.asks("strength 12", wharf, x -> x.within(0), 1);
    Check.answers("strength 24", wharf, x -> {
      x.man(0, 2);
      return x.within(0);
    }, 2);
    Check.answers("strength 0", wharf, x -> {
      x.man(0, 0);
      return x.within(0);
    }, 0);
  }

  /** "how many barrels that stand": none that hangs or is broken, not even beside place 0. */
  private static void withinDoesNotCountWhatDoesNotStand() {
    Check.asks("hanging", Check.after(x -> Scenes.loaded(x, 1, 1)), x -> x.within(0), 0);
    Check.asks("broken", Check.after(Scenes::fallen), x -> x.within(0), 0);
    Check.asks("beside those that stand", Check.after(x -> {
      Scenes.fallen(x);
      x.hoist(0, 2);
      Scenes.stand(x, 0, 2, 3);
      x.take(0);
    }), x -> x.within(0), 1);
  }

  /** "if there is no such crane". */
  private static void withinOfNoCrane() {
    Check.outOfBounds("within without cranes", TreadCranes::new, x -> x.within(0));
    for (int crane : Check.outside(0, 1)) {
      Check.outOfBounds("within(" + crane + ")", Check.after(Scenes::mixed), x -> x.within(crane));
    }
    Supplier<TreadCranes> five = Check.after(x -> Scenes.built(x, 5));
    for (int crane : Check.outside(0, 4)) {
      Check.outOfBounds("within(" + crane + ") of 5", five, x -> x.within(crane));
    }
    Check.asks("within of the last", five, x -> x.within(4), 0);
  }

  /** "0 if there are none": no barrels at all, or broken ones alone. */
  private static void meanOfNoBarrels() {
    Check.is("no barrels", new TreadCranes().mean(), 0.0);
    TreadCranes x = new TreadCranes();
    Scenes.fallen(x);
    Check.is("a broken one alone", x.mean(), 0.0);
  }

  /** "of all barrels that are not broken": those that stand and those that hang. */
  private static void meanLeavesOutBrokenBarrels() {
    TreadCranes x = new TreadCranes();
    Scenes.mixed(x);
    Check.is("one broken, one hanging", x.mean(), (10.0 + 60.0 + 21.0 + 7.0) / 4.0);
    TreadCranes y = new TreadCranes();
    Scenes.loaded(y, 1, 60);
    Check.is("a hanging one alone", y.mean(), 60.0);
  }

  private static void meanIsNotCut() {
    TreadCranes x = new TreadCranes();
    x.land(3, 2);
    x.land(4, 3);
    Check.is("a half", x.mean(), 2.5);
    x.land(4, 3);
    Check.is("a third", x.mean(), 8.0 / 3.0);
  }

  /** "A number d starts with 1151": without barrels and cranes, of count and place alone. */
  private static void digestOfAnEmptyQuay() {
    long due = 1151;
    for (int i = 0; i < 7; i++) {
      due *= 31;
    }
    for (int place = 0; place < 16; place++) {
      due = (((due * 31) * 31 - 1) * 31) * 31;
    }
    Check.is("digest of an empty quay", new TreadCranes().digest(), due);
  }

  private static void digestGoesOverAllAnswers() {
    TreadCranes x = new TreadCranes();
    Scenes.mixed(x);
    Check.is("digest", x.digest(), oneByOne(x).longValue());
    Check.is("digest again", x.digest(), oneByOne(x).longValue());
    Check.asks("digest", Check.after(Scenes::mixed), TreadCranes::digest, oneByOne(x).longValue());
    for (int barrels : new int[] {1, 39, 40}) {
      TreadCranes y = new TreadCranes();
      Scenes.landed(y, barrels);
      Scenes.built(y, 5);
      Check.is("digest of " + barrels + " barrels", y.digest(), oneByOne(y).longValue());
    }
  }

  /** "which wraps around as a 64-bit integer": here it comes out below 0 as well as above. */
  private static void digestWrapsAround() {
    int below = 0;
    for (int place = 0; place < 16; place++) {
      TreadCranes x = new TreadCranes();
      x.land(place, 60);
      BigInteger whole = oneByOne(x);
      BigInteger wrapped = whole.mod(BigInteger.TWO.pow(64));
      if (wrapped.testBit(63)) {
        wrapped = wrapped.subtract(BigInteger.TWO.pow(64));
        below++;
      }
      if (whole.equals(wrapped)) {
        Check.fail("the number does not wrap around");
      }
      Check.is("digest with a barrel at " + place, x.digest(), wrapped.longValueExact());
    }
    Check.is("sums below 0 and above", below > 0 && below < 16 ? 1 : 0, 1);
  }

  /** The sum as a number without bounds. */
  private static BigInteger oneByOne(TreadCranes x) {
    BigInteger d = BigInteger.valueOf(1151);
    for (int what = 0; what < 7; what++) {
      d = joined(d, x.count(what));
    }
    for (int i = 0; i < 16 * 4; i++) {
      d = joined(d, x.place(i / 4, i % 4));
    }
    int barrels = x.count(1);
    int cranes = x.count(5);
    for (int i = 0; i < barrels * 5; i++) {
      d = joined(d, x.barrel(i / 5, i % 5));
    }
    for (int i = 0; i < cranes * 9; i++) {
      d = joined(d, x.crane(i / 9, i % 9));
    }
    return d;
  }

  private static BigInteger joined(BigInteger d, int x) {
    return d.multiply(BigInteger.valueOf(31)).add(BigInteger.valueOf(x));
  }
}
