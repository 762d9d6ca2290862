/** Wharves that several tests begin with. */
final class Scenes {
  private Scenes() {
  }

  /** So many barrels of this weight come to a place. */
  static void stand(TreadCranes x, int place, int barrels, int weight) {
    for (int i = 0; i < barrels; i++) {
      x.land(place, weight);
    }
  }

  /** Crane 0 at place 0, of reach 15 and 8 walkers, has barrel 0 as its load, the hook at 1. */
  static void loaded(TreadCranes x, int drum, int weight) {
    x.build(0, 15, drum, 8);
    x.land(0, weight);
    x.hoist(0, 1);
    x.take(0);
  }

  /**
   * As loaded, with drum 1 and a brake worn by so much; but the load is barrel 1, and barrel 0, of
   * weight 1, by which the brake was worn, stands at place 15.
   */
  static void loadedAndWorn(TreadCranes x, int weight, int worn) {
    loaded(x, 1, 1);
    wear(x, worn);
    x.turn(0, 15);
    x.lay(0);
    x.turn(0, 0);
    x.land(0, weight);
    x.take(0);
  }

  /** Crane 0 lowers its load of weight 1 again and again, down to 1, until its brake is worn so. */
  static void wear(TreadCranes x, int worn) {
    int left = worn;
    while (left > 0) {
      int way = Math.min(left, 19);
      x.hoist(0, 1 + way);
      x.hoist(0, 1);
      left -= way;
    }
  }

  /** Crane 0 at place 0 has let barrel 0, of weight 60, fall; its hook is at 20, nothing stands. */
  static void fallen(TreadCranes x) {
    loaded(x, 1, 60);
    x.hoist(0, 20);
    x.hoist(0, 1);
    x.hoist(0, 20);
    x.hoist(0, 1);
  }

  /** Of all: barrels 0 and 2 stand at 3, 1 at 5, 3 hangs over 5, 4 is broken; 2 cranes. */
  static void mixed(TreadCranes x) {
    x.land(3, 10);
    x.land(5, 60);
    x.land(3, 21);
    x.land(6, 7);
    x.land(8, 60);
    x.build(6, 4, 5, 3);
    x.build(8, 3, 1, 8);
    x.hoist(0, 1);
    x.take(0);
    x.hoist(0, 4);
    x.turn(0, 5);
    x.hoist(1, 1);
    x.take(1);
    x.hoist(1, 20);
    x.hoist(1, 1);
    x.hoist(1, 20);
    x.hoist(1, 1);
  }

  /**
   * 5 cranes and 12 barrels, and something to lose for each of them:
   * crane 0 of strength 12 has barrel 1, too heavy for it, just upon the empty place 3, its brake is
   * worn by 37; the empty hook of crane 3 is at 0 over the same place;
   * crane 1 has its empty hook just upon barrel 10 at place 9;
   * crane 2 has barrel 9 just above the 8 that stand at place 12;
   * crane 4 has its empty hook at 10 over barrel 0 at place 15.
   */
  static void busy(TreadCranes x) {
    loadedAndWorn(x, 20, 37);
    x.turn(0, 3);
    x.man(0, 1);
    stand(x, 12, 8, 2);
    x.land(9, 30);
    x.build(9, 2, 2, 5);
    x.hoist(1, 1);
    x.build(12, 3, 3, 3);
    x.hoist(2, 8);
    x.take(2);
    x.hoist(2, 9);
    x.land(12, 4);
    x.build(5, 4, 4, 4);
    x.hoist(3, 0);
    x.turn(3, 3);
    x.build(15, 1, 1, 1);
  }

  /** So many barrels in all, from place 0 on, 8 upon each. */
  static void landed(TreadCranes x, int barrels) {
    for (int i = 0; i < barrels; i++) {
      x.land(i / 8, 1);
    }
  }

  /** So many cranes at place 9, of reach 15, drum 1 and 8 walkers. */
  static void built(TreadCranes x, int cranes) {
    for (int i = 0; i < cranes; i++) {
      x.build(9, 15, 1, 8);
    }
  }
}
