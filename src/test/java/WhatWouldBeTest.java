/** Promises 14 to 19: move, best, lasts, within, mean, digest. */
public final class WhatWouldBeTest {
  private static final int[] WILD = {Integer.MIN_VALUE, -1000, -1, 16, 1000, Integer.MAX_VALUE};

  public static void main(String[] args) {
    moveAddsItsParts();
    moveRaisesFirstOnlyAsFarAsNeedBe();
    moveLooksAtTheWayWithTheBarrel();
    moveCannot();
    moveCannotIfTheBarrelWouldFall();
    moveDoesNotMindOtherHooks();
    moveRefuses();
    bestIsTheQuickest();
    bestCanBeTheFirst();
    bestRefuses();
    lastsCountsTicks();
    lastsRefuses();
    withinCountsWhatCouldBeFetched();
    withinRefuses();
    meanLeavesOutBrokenBarrels();
    digestOfAnEmptyQuay();
    digestGoesOverAllAnswers();
    Check.end();
  }

  private static void moveAddsItsParts() {
    TreadCranes x = new TreadCranes();
    x.build(5, 10, 3, 8);
    Check.stand(x, 3, 2, 10);
    long before = x.digest();
    // turn 2, down from 10 to 2 in 3, turn 4, down from 2 to 1 in 1
    Check.is("move(0, 3, 7)", x.move(0, 3, 7), 10);
    // laid as high as it was taken
    Check.stand(x, 7, 1, 10);
    Check.is("move(0, 3, 7) level", x.move(0, 3, 7), 9);
    Check.is("move(0, 7, 3)", x.move(0, 7, 3), 2 + 3 + 1 + 4);
    Check.is("the hook stays", x.crane(0, 5), 5);
    Check.is("the brake stays", x.crane(0, 4), 0);
    Check.is("no ticks go by", x.count(0), 0);
    TreadCranes y = new TreadCranes();
    y.build(5, 10, 3, 8);
    Check.stand(y, 3, 2, 10);
    Check.is("nothing is changed", y.digest(), before);
  }

  private static void moveRaisesFirstOnlyAsFarAsNeedBe() {
    TreadCranes x = new TreadCranes();
    x.build(5, 10, 1, 8);
    x.hoist(0, 1);
    Check.stand(x, 4, 3, 10);
    Check.stand(x, 3, 1, 10);
    // up from 1 to 3 for the way to 3, turn 2, down to 1, taken, up to 4, turn 2, down to 1
    Check.is("move(0, 3, 5)", x.move(0, 3, 5), 2 + 2 + 2 + 3 + 2 + 3);
    // up to 3, turn 1, taken at once, level aside, down to 2
    Check.is("move(0, 4, 3)", x.move(0, 4, 3), 2 + 1 + 0 + 0 + 1 + 1);
    x.hoist(0, 3);
    Check.is("high enough", x.move(0, 3, 5), 0 + 2 + 2 + 3 + 2 + 3);
    x.hoist(0, 4);
    Check.is("higher", x.move(0, 3, 5), 0 + 2 + 3 + 3 + 2 + 3);
  }

  private static void moveLooksAtTheWayWithTheBarrel() {
    TreadCranes x = new TreadCranes();
    x.build(0, 15, 2, 8);
    Check.stand(x, 0, 2, 10);
    Check.stand(x, 2, 8, 10);
    // down from 10 to 2, up to 9, aside, down to 1
    Check.is("move(0, 0, 4)", x.move(0, 0, 4), 4 + 4 + 4 + 4);
    Check.is("move(0, 0, 1)", x.move(0, 0, 1), 4 + 0 + 1 + 1);
    Check.is("move(0, 2, 0)", x.move(0, 2, 0), 2 + 1 + 0 + 2 + 3);
    Check.is("past the next place", x.move(0, 2, 4), 2 + 1 + 0 + 2 + 4);
    Check.stand(x, 1, 1, 10);
    Check.is("past the next place, the highest", x.move(0, 1, 4), 1 + 5 + 4 + 3 + 4);
    Check.stand(x, 3, 1, 10);
    Check.is("back past the next place, the highest", x.move(0, 3, 0), 3 + 5 + 4 + 3 + 3);
    Check.stand(x, 4, 7, 10);
    Check.is("laid upon 7", x.move(0, 0, 4), 4 + 4 + 4 + 1);
  }

  private static void moveCannot() {
    TreadCranes x = new TreadCranes();
    x.build(5, 3, 1, 1);
    Check.stand(x, 5, 2, 12);
    Check.stand(x, 6, 8, 1);
    Check.stand(x, 1, 1, 1);
    Check.stand(x, 2, 1, 13);
    Check.is("move(0, 5, 7)", x.move(0, 5, 7), 8 + 7 + 2 + 8);
    Check.is("same place", x.move(0, 5, 5), -1);
    Check.is("from out of reach", x.move(0, 1, 5), -1);
    Check.is("to out of reach", x.move(0, 5, 1), -1);
    Check.is("to out of reach on the other side", x.move(0, 5, 9), -1);
    Check.is("to the end of the reach", x.move(0, 5, 8), 8 + 7 + 3 + 8);
    Check.is("no barrel", x.move(0, 7, 5), -1);
    Check.is("8 stand there", x.move(0, 5, 6), -1);
    Check.is("too heavy", x.move(0, 2, 3), -1);
    x.hoist(0, 2);
    x.take(0);
    Check.is("with a load", x.move(0, 5, 7), -1);
    TreadCranes y = new TreadCranes();
    y.build(5, 3, 1, 0);
    Check.stand(y, 5, 2, 1);
    Check.is("too heavy, though no lifting is needed", y.move(0, 5, 4), -1);
  }

  private static void moveCannotIfTheBarrelWouldFall() {
    TreadCranes x = new TreadCranes();
    x.build(0, 15, 1, 8);
    x.land(0, 40);
    x.hoist(0, 1);
    x.take(0);
    for (int i = 0; i < 3; i++) {
      x.hoist(0, 11);
      x.hoist(0, 1);
    }
    x.lay(0);
    Check.is("worn by 90", x.crane(0, 4), 90);
    Check.stand(x, 1, 4, 1);
    Check.stand(x, 2, 1, 1);
    // with 3 below it is worn by just 99
    Check.is("lowered by 3", x.move(0, 0, 2), 0 + 4 + 2 + 3);
    Check.is("lowered by 4", x.move(0, 0, 3), -1);
    x.mend(0);
    Check.is("mended", x.move(0, 0, 3), 0 + 4 + 3 + 4);
  }

  private static void moveDoesNotMindOtherHooks() {
    TreadCranes x = new TreadCranes();
    x.build(0, 5, 1, 8);
    x.build(2, 5, 1, 8);
    Check.stand(x, 0, 1, 1);
    x.hoist(1, 0);
    x.hoist(0, 1);
    Check.is("move(0, 0, 2)", x.move(0, 0, 2), 2);
    Check.is("move(1, 0, 2)", x.move(1, 0, 2), 1 + 2 + 0 + 0 + 2 + 0);
  }

  private static void moveRefuses() {
    TreadCranes x = new TreadCranes();
    Check.outOfBounds(x, "move without cranes", () -> x.move(0, 0, 1));
    x.build(0, 5, 1, 8);
    Check.stand(x, 0, 1, 1);
    for (int wild : WILD) {
      Check.outOfBounds(x, "move crane " + wild, () -> x.move(wild, 0, 1));
      Check.outOfBounds(x, "move from " + wild, () -> x.move(0, wild, 1));
      Check.outOfBounds(x, "move to " + wild, () -> x.move(0, 0, wild));
      Check.outOfBounds(x, "move from and to " + wild, () -> x.move(0, wild, wild));
    }
    Check.outOfBounds(x, "move(1, 0, 1)", () -> x.move(1, 0, 1));
  }

  private static void bestIsTheQuickest() {
    TreadCranes x = new TreadCranes();
    Check.stand(x, 4, 1, 20);
    Check.is("without cranes", x.best(4, 5), -1);
    x.build(4, 1, 6, 8);
    x.build(4, 2, 1, 8);
    x.build(4, 3, 6, 8);
    x.build(5, 4, 3, 8);
    x.build(5, 4, 3, 8);
    Check.is("too weak", x.move(0, 4, 5), -1);
    Check.is("the slow", x.move(1, 4, 5), 9 + 1);
    Check.is("the quick", x.move(3, 4, 5), 1 + 3 + 1);
    Check.is("the smaller number of two", x.best(4, 5), 3);
    x.turn(3, 6);
    Check.is("the quicker of two", x.best(4, 5), 4);
    x.hoist(1, 1);
    Check.is("the slow is near", x.best(4, 5), 1);
    Check.is("out of its reach", x.best(4, 7), 4);
    Check.is("out of all reach", x.best(4, 10), -1);
    Check.is("the same place", x.best(4, 4), -1);
    Check.is("no barrel", x.best(5, 4), -1);
  }

  private static void bestCanBeTheFirst() {
    TreadCranes x = new TreadCranes();
    Check.stand(x, 4, 1, 20);
    x.build(4, 5, 1, 8);
    x.build(9, 5, 1, 8);
    Check.is("the nearer", x.best(4, 5), 0);
    x.build(4, 5, 1, 8);
    Check.is("the first of two", x.best(4, 5), 0);
  }

  private static void bestRefuses() {
    TreadCranes x = new TreadCranes();
    for (int wild : WILD) {
      Check.outOfBounds(x, "best from " + wild, () -> x.best(wild, 1));
      Check.outOfBounds(x, "best to " + wild, () -> x.best(0, wild));
    }
  }

  private static void lastsCountsTicks() {
    TreadCranes x = new TreadCranes();
    x.build(0, 5, 1, 0);
    int[] weights = {1, 19, 20, 39, 40, 59, 60};
    int[] due = {99, 99, 49, 49, 33, 33, 24};
    for (int i = 0; i < weights.length; i++) {
      Check.is("lasts(0, " + weights[i] + ")", x.lasts(0, weights[i]), due[i]);
    }
    x.man(0, 8);
    x.land(0, 60);
    x.hoist(0, 1);
    x.take(0);
    x.hoist(0, 20);
    x.hoist(0, 1);
    Check.is("worn by 76, 19", x.lasts(0, 19), 23);
    Check.is("worn by 76, 20", x.lasts(0, 20), 11);
    Check.is("worn by 76, 40", x.lasts(0, 40), 7);
    Check.is("worn by 76, 60", x.lasts(0, 60), 5);
    x.hoist(0, 6);
    Check.is("it hangs still", x.hoist(0, 1), 5);
    Check.is("worn by 96, 60", x.lasts(0, 60), 0);
    Check.is("worn by 96, 1", x.lasts(0, 1), 3);
  }

  private static void lastsRefuses() {
    TreadCranes x = new TreadCranes();
    Check.outOfBounds(x, "lasts without cranes", () -> x.lasts(0, 0));
    x.build(0, 5, 1, 0);
    for (int wild : WILD) {
      Check.outOfBounds(x, "lasts crane " + wild, () -> x.lasts(wild, 1));
    }
    Check.outOfBounds(x, "lasts(1, 61)", () -> x.lasts(1, 61));
    for (int weight : new int[] {Integer.MIN_VALUE, -1, 0, 61, Integer.MAX_VALUE}) {
      Check.badArgument(x, "lasts weight " + weight, () -> x.lasts(0, weight));
    }
  }

  private static void withinCountsWhatCouldBeFetched() {
    TreadCranes x = new TreadCranes();
    x.build(5, 2, 1, 1);
    Check.is("no barrels", x.within(0), 0);
    x.land(3, 12);
    x.land(3, 60);
    x.land(3, 1);
    x.land(7, 13);
    x.land(2, 1);
    x.land(8, 1);
    x.land(5, 5);
    Check.is("within(0)", x.within(0), 3);
    x.man(0, 8);
    Check.is("stronger", x.within(0), 5);
    x.hoist(0, 1);
    x.take(0);
    Check.is("one hangs", x.within(0), 4);
    x.hoist(0, 2);
    x.turn(0, 7);
    Check.is("the hook does not matter", x.within(0), 4);
    x.man(0, 0);
    Check.is("without walkers", x.within(0), 0);
  }

  private static void withinRefuses() {
    TreadCranes x = new TreadCranes();
    Check.outOfBounds(x, "within without cranes", () -> x.within(0));
    x.build(5, 2, 1, 1);
    for (int wild : WILD) {
      Check.outOfBounds(x, "within " + wild, () -> x.within(wild));
    }
    Check.outOfBounds(x, "within(1)", () -> x.within(1));
  }

  private static void meanLeavesOutBrokenBarrels() {
    TreadCranes x = new TreadCranes();
    Check.is("no barrels", x.mean(), 0.0);
    x.build(0, 5, 1, 8);
    x.land(0, 60);
    x.hoist(0, 1);
    x.take(0);
    Check.is("a hanging one", x.mean(), 60.0);
    x.hoist(0, 20);
    x.hoist(0, 1);
    x.hoist(0, 20);
    x.hoist(0, 1);
    Check.is("a broken one alone", x.mean(), 0.0);
    x.land(3, 2);
    x.land(4, 3);
    Check.is("a half", x.mean(), 2.5);
    x.land(4, 3);
    Check.is("a third", x.mean(), 8.0 / 3.0);
  }

  private static void digestOfAnEmptyQuay() {
    long due = 1151;
    for (int i = 0; i < 7; i++) {
      due *= 31;
    }
    for (int place = 0; place < 16; place++) {
      due = (((due * 31) * 31 - 1) * 31) * 31;
    }
    Check.is("digest of an empty quay", new TreadCranes().digest(), due);
  }

  private static void digestGoesOverAllAnswers() {
    TreadCranes x = new TreadCranes();
    x.build(5, 2, 1, 8);
    x.build(9, 2, 3, 4);
    Check.stand(x, 5, 3, 7);
    Check.stand(x, 6, 2, 33);
    x.hoist(0, 3);
    x.take(0);
    x.hoist(0, 8);
    x.hoist(0, 4);
    x.turn(0, 6);
    Check.is("digest", x.digest(), askedOneByOne(x));
    Check.is("digest again", x.digest(), askedOneByOne(x));
  }

  private static long askedOneByOne(TreadCranes x) {
    long d = 1151;
    for (int what = 0; what < 7; what++) {
      d = d * 31 + x.count(what);
    }
    for (int i = 0; i < 16 * 4; i++) {
      d = d * 31 + x.place(i / 4, i % 4);
    }
    for (int i = 0; i < x.count(1) * 5; i++) {
      d = d * 31 + x.barrel(i / 5, i % 5);
    }
    for (int i = 0; i < x.count(5) * 9; i++) {
      d = d * 31 + x.crane(i / 9, i % 9);
    }
    return d;
  }
}
