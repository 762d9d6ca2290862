/** Promises 10 to 13: place, barrel, crane, count. */
public final class WhatIsThereTest {
  private static final int[] WILD = {Integer.MIN_VALUE, -1000, -1, 16, 1000, Integer.MAX_VALUE};

  public static void main(String[] args) {
    placeTells();
    placeRefuses();
    barrelTells();
    barrelRefuses();
    craneTells();
    craneRefuses();
    countTells();
    countRefuses();
    Check.end();
  }

  /** Barrels 0 and 2 stand at 3, 1 at 5, 3 hangs over 5, 4 is broken; 2 cranes. */
  private static TreadCranes wharf() {
    TreadCranes x = new TreadCranes();
    x.land(3, 10);
    x.land(5, 60);
    x.land(3, 21);
    x.land(6, 7);
    x.land(8, 60);
    x.build(6, 4, 5, 3);
    x.build(8, 3, 1, 8);
    x.hoist(0, 1);
    x.take(0);
    x.hoist(0, 4);
    x.turn(0, 5);
    x.hoist(1, 1);
    x.take(1);
    x.hoist(1, 20);
    x.hoist(1, 1);
    x.hoist(1, 20);
    x.hoist(1, 1);
    return x;
  }

  private static void expectPlace(TreadCranes x, int place, int... due) {
    for (int what = 0; what < 4; what++) {
      Check.is("place(" + place + ", " + what + ")", x.place(place, what), due[what]);
    }
  }

  private static void placeTells() {
    TreadCranes x = wharf();
    expectPlace(x, 3, 2, 2, 31, 0);
    expectPlace(x, 5, 1, 1, 60, 1);
    expectPlace(x, 6, 0, -1, 0, 0);
    expectPlace(x, 8, 0, -1, 0, 1);
    expectPlace(x, 0, 0, -1, 0, 0);
    expectPlace(x, 15, 0, -1, 0, 0);
    x.turn(0, 8);
    expectPlace(x, 5, 1, 1, 60, 0);
    expectPlace(x, 8, 0, -1, 0, 2);
  }

  private static void placeRefuses() {
    TreadCranes x = wharf();
    for (int wild : WILD) {
      Check.outOfBounds(x, "place " + wild, () -> x.place(wild, 0));
      Check.outOfBounds(x, "place what " + wild, () -> x.place(0, wild));
    }
    Check.outOfBounds(x, "place(0, 4)", () -> x.place(0, 4));
  }

  private static void expectBarrel(TreadCranes x, int barrel, int... due) {
    for (int what = 0; what < 5; what++) {
      Check.is("barrel(" + barrel + ", " + what + ")", x.barrel(barrel, what), due[what]);
    }
  }

  private static void barrelTells() {
    TreadCranes x = wharf();
    expectBarrel(x, 0, 10, 3, 1, -1, 0);
    expectBarrel(x, 1, 60, 5, 0, -1, 0);
    expectBarrel(x, 2, 21, 3, 0, -1, 0);
    expectBarrel(x, 3, 7, -1, 0, 0, 0);
    expectBarrel(x, 4, 60, -1, 0, -1, 1);
    for (int i = 0; i < 6; i++) {
      x.land(3, 1);
    }
    expectBarrel(x, 0, 10, 3, 7, -1, 0);
    expectBarrel(x, 2, 21, 3, 6, -1, 0);
    expectBarrel(x, 9, 1, 3, 1, -1, 0);
    expectBarrel(x, 10, 1, 3, 0, -1, 0);
  }

  private static void barrelRefuses() {
    TreadCranes x = wharf();
    for (int wild : WILD) {
      Check.outOfBounds(x, "barrel " + wild, () -> x.barrel(wild, 0));
      Check.outOfBounds(x, "barrel what " + wild, () -> x.barrel(0, wild));
    }
    Check.outOfBounds(x, "barrel(5, 0)", () -> x.barrel(5, 0));
    Check.outOfBounds(x, "barrel(0, 5)", () -> x.barrel(0, 5));
  }

  private static void expectCrane(TreadCranes x, int crane, int... due) {
    for (int what = 0; what < 9; what++) {
      Check.is("crane(" + crane + ", " + what + ")", x.crane(crane, what), due[what]);
    }
  }

  private static void craneTells() {
    TreadCranes x = wharf();
    expectCrane(x, 0, 6, 4, 5, 3, 0, 5, 4, 3, 7);
    expectCrane(x, 1, 8, 3, 1, 8, 99, 8, 20, -1, 96);
    x.man(0, 0);
    Check.is("strength without walkers", x.crane(0, 8), 0);
    for (int walkers = 0; walkers <= 8; walkers++) {
      x.man(0, walkers);
      Check.is("strength is cut", x.crane(0, 8), walkers * 12 / 5);
    }
  }

  private static void craneRefuses() {
    TreadCranes x = wharf();
    for (int wild : WILD) {
      Check.outOfBounds(x, "crane " + wild, () -> x.crane(wild, 0));
      Check.outOfBounds(x, "crane what " + wild, () -> x.crane(0, wild));
    }
    Check.outOfBounds(x, "crane(2, 0)", () -> x.crane(2, 0));
    Check.outOfBounds(x, "crane(0, 9)", () -> x.crane(0, 9));
  }

  private static void countTells() {
    TreadCranes x = wharf();
    // crane 0: 2 down, 1 up, 1 aside; crane 1: 9 down, 19 up, 19 down, 19 up
    long[] due = {70, 5, 3, 1, 1, 2, 2};
    for (int what = 0; what < 7; what++) {
      Check.is("count(" + what + ")", x.count(what), due[what]);
    }
    for (int i = 0; i < 4; i++) {
      x.land(15, 1);
    }
    Check.is("count(6)", x.count(6), 4);
    Check.is("count(2)", x.count(2), 7);
    for (int i = 0; i < 5; i++) {
      x.land(0, 1);
    }
    Check.is("count(6) by place 0", x.count(6), 5);
  }

  private static void countRefuses() {
    TreadCranes x = wharf();
    for (int wild : WILD) {
      Check.outOfBounds(x, "count " + wild, () -> x.count(wild));
    }
    Check.outOfBounds(x, "count(7)", () -> x.count(7));
  }
}
