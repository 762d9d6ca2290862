import java.util.function.Supplier;

/** "What it is" and "Terms": the bounds and the rules that the promises share, each by itself. */
public final class TermsTest {
  // down to the first barrel, 64 up and down, to place 15 and back, to place 4, up to 20
  private static final int TICKS_AHEAD_OF_THE_FALL = 9 + 2 * 64 + 2 * 15 + 4 + 19;

  public static void main(String[] args) {
    the512thCallIsAnswered();
    divisionIsCutTowards0();
    theQuayHasPlaces0To15();
    atMost8StandUponAPlace();
    atMost40BarrelsInAll();
    barrelsAreNumberedFrom0();
    aWeightIs1To60();
    aBarrelStandsOrHangsOrIsBroken();
    aBrokenBarrelIsBrokenForGood();
    atMost5Cranes();
    cranesAreNumberedFrom0();
    severalCranesStandAtOnePlace();
    aReachIs1To15();
    aDrumIs1To6();
    walkersAre0To8();
    aBrakeIsNotWornAtFirst();
    aBrakeIsWornByAtMost99();
    aHookIsOverItsCraneAtFirst();
    aHookIs10HighAtFirst();
    aHookIs0To20High();
    aCraneHasNoLoadAtFirst();
    aLoadIs1High();
    aHookIsAtLeastAsHighAsItsPlace();
    aLoadedHookIsHigherBy1();
    aCraneLiftsItsStrengthAndNoMore();
    windingIsRoundedUp();
    turningTakesATickAPlaceWithAnyDrum();
    eachTickOfLoweringWears();
    theWholeLoweringCounts();
    justNinetyNineIsNotTooMuch();
    theFallenLoadIsBroken();
    aFallWearsTheBrakeBy99();
    aFallLeavesTheHook();
    aFallTakesNoTicks();
    Check.end();
  }

  /** "An object is used for at most 512 calls after it has been made". */
  private static void the512thCallIsAnswered() {
    Supplier<TreadCranes> turned = Check.after(x -> turnToAndFro(x, 510));
    Check.answers("the 512th call, after 510 turns", turned, x -> x.count(0), 510 * 15);
    TreadCranes refused = new TreadCranes();
    for (int i = 0; i < 511; i++) {
      Check.answer(() -> refused.land(0, 61));
    }
    Check.is("the 512th call, after 511 refused ones", refused.land(0, 60), 0);
    // 6 more of count, 64 of place and 9 of crane come after the ticks
    long due = Check.after(x -> turnToAndFro(x, 0)).get().digest();
    long weight = 510 * 15;
    for (int i = 0; i < 6 + 64 + 9; i++) {
      weight *= 31;
    }
    Check.answers("the checksum as the 512th call", turned, TreadCranes::digest, due + weight);
  }

  private static void turnToAndFro(TreadCranes x, int turns) {
    x.build(0, 15, 1, 8);
    for (int i = 0; i < turns; i++) {
      x.turn(0, i % 2 == 0 ? 15 : 0);
    }
  }

  /** "All numbers are whole, and / is cut towards 0." */
  private static void divisionIsCutTowards0() {
    for (int drum = 1; drum <= 6; drum++) {
      for (int walkers = 0; walkers <= 8; walkers++) {
        int d = drum;
        int w = walkers;
        int most = 0;
        while ((most + 1) * drum <= 12 * walkers) {
          most++;
        }
        Check.answers("strength of " + w + " with drum " + d, Check.after(x -> x.build(0, 1, d, w)),
            x -> x.crane(0, 8), most);
      }
    }
    Check.answers("wear by 19 / 20 and 1", Check.after(x -> Scenes.loaded(x, 1, 19)), TermsTest::wearOfOneTick, 1);
    Check.answers("wear by 39 / 20 and 1", Check.after(x -> Scenes.loaded(x, 1, 39)), TermsTest::wearOfOneTick, 2);
    Check.answers("wear by 59 / 20 and 1", Check.after(x -> Scenes.loaded(x, 1, 59)), TermsTest::wearOfOneTick, 3);
  }

  private static long wearOfOneTick(TreadCranes x) {
    x.hoist(0, 2);
    x.hoist(0, 1);
    return x.crane(0, 4);
  }

  /** "It has 16 places, 0 to 15". */
  private static void theQuayHasPlaces0To15() {
    TreadCranes x = new TreadCranes();
    for (int place = 0; place < 16; place++) {
      Check.is("land(" + place + ", 3)", x.land(place, 3), place);
      Check.is("place(" + place + ", 0)", x.place(place, 0), 1);
    }
    Supplier<TreadCranes> empty = TreadCranes::new;
    Check.outOfBounds("place(-1, 0)", empty, y -> y.place(-1, 0));
    Check.outOfBounds("place(16, 0)", empty, y -> y.place(16, 0));
  }

  /** "upon each stand barrels, one upon the other, at most 8; so high is the place". */
  private static void atMost8StandUponAPlace() {
    TreadCranes x = new TreadCranes();
    for (int i = 0; i < 8; i++) {
      Check.is("height of 15 with " + i, x.place(15, 0), i);
      x.land(15, 1);
    }
    Check.is("height of 15 with 8", x.place(15, 0), 8);
    Check.badState("a ninth at 15", Check.after(y -> Scenes.stand(y, 15, 8, 1)), y -> y.land(15, 1));
  }

  /** "There are at most 40 in all". */
  private static void atMost40BarrelsInAll() {
    Check.answers("the 40th", Check.after(x -> Scenes.landed(x, 39)), x -> x.land(15, 1), 39);
    Check.badState("the 41st", Check.after(x -> Scenes.landed(x, 40)), x -> x.land(15, 1));
  }

  /** "numbered from 0 in the order of their coming": a refused one takes no number. */
  private static void barrelsAreNumberedFrom0() {
    TreadCranes x = new TreadCranes();
    for (int i = 0; i < 40; i++) {
      int place = (i * 7) % 16;
      Check.answer(() -> x.land(place, 0));
      Check.answer(() -> x.land(16, 1));
      Check.is("number of a barrel", x.land(place, 20 + i), i);
      Check.is("weight of barrel " + i, x.barrel(i, 0), 20 + i);
    }
    TreadCranes y = new TreadCranes();
    Scenes.stand(y, 0, 8, 1);
    Check.answer(() -> y.land(0, 1));
    Check.is("number after a ninth was refused", y.land(1, 1), 8);
  }

  /** "each has a weight, 1 to 60". */
  private static void aWeightIs1To60() {
    for (int weight = 1; weight <= 60; weight++) {
      int w = weight;
      Check.answers("weight", Check.after(x -> x.land(4, w)), x -> x.barrel(0, 0), w);
    }
    Check.badArgument("a weight of 0", TreadCranes::new, x -> x.land(4, 0));
    Check.badArgument("a weight of 61", TreadCranes::new, x -> x.land(4, 61));
  }

  /** "and stands at a place, hangs from a crane, or is broken": just one of these. */
  private static void aBarrelStandsOrHangsOrIsBroken() {
    TreadCranes x = new TreadCranes();
    x.land(0, 60);
    expectOnly("standing", x, 0, -1, 0);
    x.build(0, 15, 1, 8);
    x.hoist(0, 1);
    x.take(0);
    expectOnly("hanging", x, -1, 0, 0);
    x.turn(0, 1);
    x.lay(0);
    expectOnly("set down", x, 1, -1, 0);
    x.take(0);
    x.hoist(0, 20);
    x.hoist(0, 1);
    x.hoist(0, 20);
    x.hoist(0, 1);
    expectOnly("broken", x, -1, -1, 1);
  }

  private static void expectOnly(String how, TreadCranes x, int place, int crane, int broken) {
    Check.is("place of barrel 0, " + how, x.barrel(0, 1), place);
    Check.is("crane of barrel 0, " + how, x.barrel(0, 3), crane);
    Check.is("barrel 0 is broken, " + how, x.barrel(0, 4), broken);
    Check.is("standing ones, " + how, x.count(2), place >= 0 ? 1 : 0);
    Check.is("hanging ones, " + how, x.count(3), crane >= 0 ? 1 : 0);
    Check.is("broken ones, " + how, x.count(4), broken);
  }

  /** "or is broken, for good": it stays so, whatever comes. */
  private static void aBrokenBarrelIsBrokenForGood() {
    Supplier<TreadCranes> fallen = Check.after(Scenes::fallen);
    Check.badState("take what fell", Check.after(x -> {
      Scenes.fallen(x);
      x.hoist(0, 0);
    }), x -> x.take(0));
    Check.badState("lay what fell", Check.after(x -> {
      Scenes.fallen(x);
      x.hoist(0, 1);
    }), x -> x.lay(0));
    TreadCranes x = fallen.get();
    x.mend(0);
    x.hoist(0, 1);
    x.land(0, 5);
    x.take(0);
    x.turn(0, 1);
    x.lay(0);
    Check.is("it is broken still", x.barrel(0, 4), 1);
    Check.is("it stands nowhere still", x.barrel(0, 1), -1);
    Check.is("it hangs nowhere still", x.barrel(0, 3), -1);
    Check.is("it counts as broken still", x.count(4), 1);
    Check.is("its number is not used again", x.count(1), 2);
  }

  /** "There are at most 5". */
  private static void atMost5Cranes() {
    Check.answers("the fifth", Check.after(x -> Scenes.built(x, 4)), x -> x.build(0, 1, 1, 0), 4);
    Check.badState("the sixth", Check.after(x -> Scenes.built(x, 5)), x -> x.build(0, 1, 1, 0));
  }

  /** "numbered likewise": from 0 in the order of their coming, a refused one takes no number. */
  private static void cranesAreNumberedFrom0() {
    TreadCranes x = new TreadCranes();
    for (int i = 0; i < 5; i++) {
      Check.answer(() -> x.build(3, 1, 7, 0));
      Check.answer(() -> x.build(16, 1, 1, 0));
      Check.is("number of a crane", x.build(15 - i, 1 + i, 1, 0), i);
      Check.is("place of crane " + i, x.crane(i, 0), 15 - i);
      Check.is("reach of crane " + i, x.crane(i, 1), 1 + i);
    }
  }

  /** "each stands at a place of its own (several can stand at one)". */
  private static void severalCranesStandAtOnePlace() {
    TreadCranes x = new TreadCranes();
    for (int i = 0; i < 5; i++) {
      Check.is("build at 9", x.build(9, 1, 1, 0), i);
    }
    for (int i = 0; i < 5; i++) {
      Check.is("place of crane " + i, x.crane(i, 0), 9);
    }
  }

  /** "has a reach, 1 to 15". */
  private static void aReachIs1To15() {
    for (int reach = 1; reach <= 15; reach++) {
      int r = reach;
      Supplier<TreadCranes> wharf = Check.after(x -> x.build(0, r, 1, 0));
      Check.answers("the reach", wharf, x -> x.crane(0, 1), r);
      Check.answers("turning as far as the reach " + r, wharf, x -> x.turn(0, r), r);
    }
    Check.badArgument("a reach of 0", TreadCranes::new, x -> x.build(0, 0, 1, 0));
    Check.badArgument("a reach of 16", TreadCranes::new, x -> x.build(0, 16, 1, 0));
  }

  /** "a drum, 1 to 6". */
  private static void aDrumIs1To6() {
    for (int drum = 1; drum <= 6; drum++) {
      int d = drum;
      Check.answers("the drum", Check.after(x -> x.build(0, 1, d, 0)), x -> x.crane(0, 2), d);
    }
    Check.badArgument("a drum of 0", TreadCranes::new, x -> x.build(0, 1, 0, 0));
    Check.badArgument("a drum of 7", TreadCranes::new, x -> x.build(0, 1, 7, 0));
  }

  /** "walkers, 0 to 8". */
  private static void walkersAre0To8() {
    for (int walkers = 0; walkers <= 8; walkers++) {
      int w = walkers;
      Check.answers("the walkers", Check.after(x -> x.build(0, 1, 1, w)), x -> x.crane(0, 3), w);
    }
    Check.badArgument("-1 walkers", TreadCranes::new, x -> x.build(0, 1, 1, -1));
    Check.badArgument("9 walkers", TreadCranes::new, x -> x.build(0, 1, 1, 9));
  }

  /** "a brake, worn by 0 (at first)". */
  private static void aBrakeIsNotWornAtFirst() {
    Check.answers("a new brake", Check.after(x -> x.build(0, 1, 1, 0)), x -> x.crane(0, 4), 0);
  }

  /** "to 99". */
  private static void aBrakeIsWornByAtMost99() {
    Supplier<TreadCranes> worn = Check.after(x -> Scenes.loadedAndWorn(x, 60, 99));
    Check.answers("worn by lowering", worn, x -> x.crane(0, 4), 99);
    Check.answers("worn by a fall", worn, x -> {
      x.hoist(0, 20);
      x.hoist(0, 1);
      return x.crane(0, 4);
    }, 99);
  }

  /** "a hook over a place (its own, at first)". */
  private static void aHookIsOverItsCraneAtFirst() {
    for (int place = 0; place < 16; place++) {
      int p = place;
      Supplier<TreadCranes> wharf = Check.after(x -> x.build(p, 3, 1, 0));
      Check.answers("place of the hook", wharf, x -> x.crane(0, 5), p);
      Check.answers("hooks over " + p, wharf, x -> x.place(p, 3), 1);
    }
  }

  /** "(10, at first)": over barrels too. */
  private static void aHookIs10HighAtFirst() {
    Check.answers("over nothing", Check.after(x -> x.build(3, 1, 1, 0)), x -> x.crane(0, 6), 10);
    Check.answers("over 8", Check.after(x -> {
      Scenes.stand(x, 3, 8, 1);
      x.build(3, 1, 1, 0);
    }), x -> x.crane(0, 6), 10);
  }

  /** "at a height, 0 to 20". */
  private static void aHookIs0To20High() {
    Supplier<TreadCranes> wharf = Check.after(x -> x.build(3, 1, 1, 0));
    Check.answers("down to 0", wharf, x -> x.hoist(0, 0), 10);
    Check.answers("up to 20", wharf, x -> x.hoist(0, 20), 10);
    Check.badArgument("down to -1", wharf, x -> x.hoist(0, -1));
    Check.badArgument("up to 21", wharf, x -> x.hoist(0, 21));
  }

  /** "and a load, or none (at first)". */
  private static void aCraneHasNoLoadAtFirst() {
    Supplier<TreadCranes> wharf = Check.after(x -> {
      x.land(3, 1);
      x.build(3, 1, 1, 0);
    });
    Check.answers("load of a new crane", wharf, x -> x.crane(0, 7), -1);
    Check.answers("hanging ones", wharf, x -> x.count(3), 0);
  }

  /** "A load hangs just below the hook, and is 1 high." */
  private static void aLoadIs1High() {
    Supplier<TreadCranes> loaded = Check.after(x -> Scenes.loaded(x, 1, 5));
    Check.badState("the load into the quay", loaded, x -> x.hoist(0, 0));
    Check.answers("the load upon the quay", loaded, x -> x.hoist(0, 1), 0);
    Check.answers("set down at 1", loaded, x -> x.lay(0), 1);
  }

  /** "The hook has to be at least as high as the place below it". */
  private static void aHookIsAtLeastAsHighAsItsPlace() {
    for (int height = 0; height <= 8; height++) {
      int h = height;
      Supplier<TreadCranes> wharf = Check.after(x -> {
        x.build(3, 1, 1, 0);
        Scenes.stand(x, 3, h, 1);
      });
      Check.answers("just as high as " + h, wharf, x -> x.hoist(0, h), 10 - h);
      if (h > 0) {
        Check.badState("lower than " + h, wharf, x -> x.hoist(0, h - 1));
      }
    }
  }

  /** "with a load 1 higher". */
  private static void aLoadedHookIsHigherBy1() {
    for (int height = 0; height <= 8; height++) {
      int h = height;
      Supplier<TreadCranes> wharf = Check.after(x -> {
        Scenes.loaded(x, 1, 1);
        x.hoist(0, 12);
        Scenes.stand(x, 1, h, 1);
        x.turn(0, 1);
      });
      Check.answers("higher by 1 than " + h, wharf, x -> x.hoist(0, h + 1), 11 - h);
      Check.badState("just as high as " + h, wharf, x -> x.hoist(0, h));
    }
  }

  /** "a crane can lift a load whose weight is not more" than its strength. */
  private static void aCraneLiftsItsStrengthAndNoMore() {
    // strength 12 * 5 / 3 is 20, 12 * 2 / 5 is 4
    int[][] cranes = {{3, 5, 20}, {5, 2, 4}};
    for (int[] crane : cranes) {
      Supplier<TreadCranes> able = Check.after(x -> manned(x, crane[0], crane[1], crane[2]));
      Supplier<TreadCranes> weak = Check.after(x -> manned(x, crane[0], crane[1], crane[2] + 1));
      Check.answers("as heavy as the strength", able, x -> x.hoist(0, 2), 1);
      Check.badState("heavier by 1", weak, x -> x.hoist(0, 2));
      Check.answers("could fetch it", Check.after(x -> x.build(0, 1, crane[0], crane[1])), x -> {
        x.land(0, crane[2]);
        x.land(0, crane[2] + 1);
        return x.within(0);
      }, 1);
    }
  }

  private static void manned(TreadCranes x, int drum, int walkers, int weight) {
    Scenes.loaded(x, drum, weight);
    x.man(0, walkers);
  }

  /** "lifting and lowering by n take n / drum, rounded up". */
  private static void windingIsRoundedUp() {
    for (int drum = 1; drum <= 6; drum++) {
      for (int height = 0; height <= 20; height++) {
        int d = drum;
        int h = height;
        int way = Math.abs(height - 10);
        int due = way % drum == 0 ? way / drum : way / drum + 1;
        Check.answers("from 10 to " + h + " with drum " + d, Check.after(x -> x.build(0, 1, d, 0)),
            x -> x.hoist(0, h), due);
      }
    }
  }

  /** "turning by n places takes n". */
  private static void turningTakesATickAPlaceWithAnyDrum() {
    for (int drum = 1; drum <= 6; drum++) {
      int d = drum;
      Supplier<TreadCranes> wharf = Check.after(x -> x.build(5, 15, d, 0));
      Check.answers("by 0 places with drum " + d, wharf, x -> x.turn(0, 5), 0);
      Check.answers("by 10 places with drum " + d, wharf, x -> x.turn(0, 15), 10);
      Check.answers("by 5 places back with drum " + d, wharf, x -> x.turn(0, 0), 5);
    }
  }

  /** "Lowering a load wears the brake by weight / 20 and 1 in each tick": ticks, not heights. */
  private static void eachTickOfLoweringWears() {
    int[][] dues = {{1, 1}, {19, 1}, {20, 2}, {39, 2}, {40, 3}, {59, 3}, {60, 4}};
    for (int[] due : dues) {
      TreadCranes x = new TreadCranes();
      Scenes.loaded(x, 1, due[0]);
      x.hoist(0, 8);
      x.turn(0, 1);
      Check.is("lifting and turning wear nothing", x.crane(0, 4), 0);
      x.hoist(0, 1);
      Check.is("wear of 7 ticks by " + due[0], x.crane(0, 4), 7 * due[1]);
      x.lay(0);
      Check.is("setting down wears nothing", x.crane(0, 4), 7 * due[1]);
      x.hoist(0, 9);
      x.hoist(0, 1);
      Check.is("an empty hook wears nothing", x.crane(0, 4), 7 * due[1]);
    }
    TreadCranes x = new TreadCranes();
    Scenes.loaded(x, 4, 20);
    x.hoist(0, 11);
    Check.is("lowering by 9 with drum 4", x.hoist(0, 2), 3);
    Check.is("wear of 3 ticks by 20", x.crane(0, 4), 6);
  }

  /** "by the whole lowering": the sum of its ticks is asked for, not the first or the last one. */
  private static void theWholeLoweringCounts() {
    Supplier<TreadCranes> high = Check.after(x -> {
      Scenes.loadedAndWorn(x, 1, 95);
      x.hoist(0, 20);
    });
    Check.answers("by 5", high, x -> x.hoist(0, 15), -1);
    Check.answers("by 4", high, x -> x.hoist(0, 16), 4);
    Check.answers("by 3 and by 2", high, x -> {
      x.hoist(0, 17);
      Check.is("worn by 98", x.crane(0, 4), 98);
      return x.hoist(0, 15);
    }, -1);
  }

  /** "If it would be worn by more than 99": by 99 it hangs still, by 100 it falls. */
  private static void justNinetyNineIsNotTooMuch() {
    int[][] ways = {{1, 1}, {20, 2}, {40, 3}, {60, 4}};
    for (int[] way : ways) {
      Supplier<TreadCranes> just = Check.after(x -> {
        Scenes.loadedAndWorn(x, way[0], 99 - 3 * way[1]);
        x.hoist(0, 9);
      });
      Supplier<TreadCranes> over = Check.after(x -> {
        Scenes.loadedAndWorn(x, way[0], 100 - 3 * way[1]);
        x.hoist(0, 9);
      });
      Check.answers("worn by just 99 by " + way[0], just, x -> x.hoist(0, 6), 3);
      Check.answers("wear then", just, x -> x.hoist(0, 6) * 100 + x.crane(0, 4), 399);
      Check.answers("load then", just, x -> x.hoist(0, 6) * 100 + x.crane(0, 7), 301);
      Check.answers("worn by just 100 by " + way[0], over, x -> x.hoist(0, 6), -1);
    }
    Supplier<TreadCranes> worn = Check.after(x -> Scenes.loadedAndWorn(x, 60, 99));
    Check.answers("lifting on a brake worn by 99", worn, x -> x.hoist(0, 2), 1);
    Check.answers("lowering by nothing on it", worn, x -> x.hoist(0, 1), 0);
  }

  /** What a lowering by 18 ticks, each by 2, from a wear of 64, leaves. */
  private static TreadCranes afterTheFall() {
    TreadCranes x = new TreadCranes();
    Scenes.loadedAndWorn(x, 20, 64);
    x.turn(0, 4);
    x.hoist(0, 20);
    x.land(4, 7);
    Check.is("ticks ahead of the fall", x.count(0), TICKS_AHEAD_OF_THE_FALL);
    Check.is("the fall", x.hoist(0, 2), -1);
    return x;
  }

  /** "the load falls: it is broken". */
  private static void theFallenLoadIsBroken() {
    TreadCranes x = afterTheFall();
    long[] due = {20, -1, 0, -1, 1};
    for (int what = 0; what < 5; what++) {
      Check.is("barrel(1, " + what + ") after the fall", x.barrel(1, what), due[what]);
    }
    Check.is("load after the fall", x.crane(0, 7), -1);
    Check.is("broken ones", x.count(4), 1);
    Check.is("hanging ones", x.count(3), 0);
    Check.is("what stood below stands still", x.place(4, 0), 1);
    Check.is("it is whole", x.barrel(2, 4), 0);
  }

  /** "the brake is worn by 99". */
  private static void aFallWearsTheBrakeBy99() {
    Check.is("wear after the fall", afterTheFall().crane(0, 4), 99);
  }

  /** "and the hook stays where it was ahead of this". */
  private static void aFallLeavesTheHook() {
    TreadCranes x = afterTheFall();
    Check.is("place of the hook after the fall", x.crane(0, 5), 4);
    Check.is("height of the hook after the fall", x.crane(0, 6), 20);
    Check.is("the empty hook goes down from there", x.hoist(0, 1), 19);
    Check.is("on a brake that stays as it was", x.crane(0, 4), 99);
  }

  /** "it takes no ticks". */
  private static void aFallTakesNoTicks() {
    Check.is("ticks after the fall", afterTheFall().count(0), TICKS_AHEAD_OF_THE_FALL);
  }
}
