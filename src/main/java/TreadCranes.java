import java.util.ArrayList;

/** Cranes of a wharf that are driven by walkers in treadmills. */
public final class TreadCranes {
  private static final int NONE = -1;
  private static final int PLACES = 16;
  private static final int MOST_UPON_A_PLACE = 8;
  private static final int MOST_BARRELS = 40;
  private static final int HEAVIEST = 60;
  private static final int MOST_CRANES = 5;
  private static final int LONGEST_REACH = 15;
  private static final int LARGEST_DRUM = 6;
  private static final int MOST_WALKERS = 8;
  private static final int HIGHEST_HOOK = 20;
  private static final int FIRST_HOOK_HEIGHT = 10;
  private static final int MOST_WORN = 99;

  private static final int ANSWERS_OF_PLACE = 4;
  private static final int ANSWERS_OF_BARREL = 5;
  private static final int ANSWERS_OF_CRANE = 9;
  private static final int ANSWERS_OF_COUNT = 7;

  private final Barrel[] uppermost = new Barrel[PLACES];
  private final ArrayList<Barrel> barrels = new ArrayList<Barrel>();
  private final ArrayList<Crane> cranes = new ArrayList<Crane>();
  private int ticks;

  /** A barrel; level and below mean something only while it stands. */
  private static final class Barrel {
    final int number;
    final int weight;
    int place = NONE;
    int level;
    Barrel below;
    int crane = NONE;
    boolean broken;

    Barrel(int number, int weight) {
      this.number = number;
      this.weight = weight;
    }
  }

  /** A crane with its brake, its hook and its load, if it has one. */
  private static final class Crane {
    final int place;
    final int reach;
    final int drum;
    int walkers;
    int worn;
    int hookPlace;
    int hookHeight = FIRST_HOOK_HEIGHT;
    Barrel load;

    Crane(int place, int reach, int drum, int walkers) {
      this.place = place;
      this.reach = reach;
      this.drum = drum;
      this.walkers = walkers;
      this.hookPlace = place;
    }

    int strength() {
      return drum < 1 ? 0 : 12 * walkers / drum;
    }

    boolean canLift(int weight) {
      return weight <= strength();
    }

    boolean reaches(int target) {
      return distance(place, target) <= reach;
    }

    int ticksToWind(int difference) {
      return drum < 1 ? 0 : (difference + drum - 1) / drum;
    }

    int lowestHook(int placeHeight) {
      return load == null ? placeHeight : placeHeight + 1;
    }

    int wornAfterLowering(int weight, int needed) {
      return worn + needed * wearInATick(weight);
    }
  }

  /** Creates an empty quay without cranes. */
  public TreadCranes() {
  }

  // ---- barrels and cranes

  /** A barrel is put upon a place; returns its number. */
  public int land(int place, int weight)
      throws IndexOutOfBoundsException, IllegalArgumentException, IllegalStateException {
    requirePlace(place);
    requireWeight(weight);
    if (barrels.size() >= MOST_BARRELS || heightOf(place) >= MOST_UPON_A_PLACE) {
      throw new IllegalStateException("no room for another barrel");
    }
    if (!hooksAllow(place, heightOf(place) + 1, NONE)) {
      throw new IllegalStateException("a hook is in the way");
    }
    Barrel barrel = new Barrel(barrels.size(), weight);
    barrels.add(barrel);
    putUpon(place, barrel);
    return barrel.number;
  }

  /** Builds a crane; returns its number. */
  public int build(int place, int reach, int drum, int walkers)
      throws IndexOutOfBoundsException, IllegalArgumentException, IllegalStateException {
    requirePlace(place);
    if (!isBetween(reach, 1, LONGEST_REACH) || !isBetween(drum, 1, LARGEST_DRUM)) {
      throw new IllegalArgumentException("no such reach or drum");
    }
    requireWalkers(walkers);
    if (cranes.size() >= MOST_CRANES) {
      throw new IllegalStateException("no room for another crane");
    }
    cranes.add(new Crane(place, reach, drum, walkers));
    return cranes.size() - 1;
  }

  /** Gives a crane other walkers; returns how many it had. */
  public int man(int crane, int walkers) throws IndexOutOfBoundsException, IllegalArgumentException {
    requireCrane(crane);
    requireWalkers(walkers);
    Crane manned = cranes.get(crane);
    int before = manned.walkers;
    manned.walkers = walkers;
    return before;
  }

  /** Lays a new brake; returns by how much the old one was worn. */
  public int mend(int crane) throws IndexOutOfBoundsException {
    requireCrane(crane);
    Crane mended = cranes.get(crane);
    int before = mended.worn;
    mended.worn = 0;
    return before;
  }

  // ---- work

  /** Turns the hook to a place; returns how many ticks it takes. */
  public int turn(int crane, int place) throws IndexOutOfBoundsException, IllegalStateException {
    requireCrane(crane);
    requirePlace(place);
    Crane turned = cranes.get(crane);
    if (!turned.reaches(place)) {
      throw new IllegalStateException("the place is out of reach");
    }
    if (turned.hookHeight < turned.lowestHook(highestBetween(turned.hookPlace, place))) {
      throw new IllegalStateException("a place is in the way");
    }
    int needed = distance(turned.hookPlace, place);
    turned.hookPlace = place;
    ticks += needed;
    return needed;
  }

  /** Brings the hook to a height; returns how many ticks it takes, or -1 if the load falls. */
  public int hoist(int crane, int height)
      throws IndexOutOfBoundsException, IllegalArgumentException, IllegalStateException {
    requireCrane(crane);
    if (!isBetween(height, 0, HIGHEST_HOOK)) {
      throw new IllegalArgumentException("no such height");
    }
    Crane hoisted = cranes.get(crane);
    if (height < hoisted.lowestHook(heightOf(hoisted.hookPlace))) {
      throw new IllegalStateException("the place below is in the way");
    }
    Barrel load = hoisted.load;
    if (height > hoisted.hookHeight && load != null && !hoisted.canLift(load.weight)) {
      throw new IllegalStateException("the load is too heavy");
    }
    return height < hoisted.hookHeight ? lowerHook(hoisted, height) : raiseHook(hoisted, height);
  }

  /** Takes the uppermost barrel below the hook; returns this barrel. */
  public int take(int crane) throws IndexOutOfBoundsException, IllegalStateException {
    requireCrane(crane);
    Crane taker = cranes.get(crane);
    Barrel top = uppermostAt(taker.hookPlace);
    if (taker.load != null || top == null || taker.hookHeight != heightOf(taker.hookPlace)) {
      throw new IllegalStateException("no barrel can be taken");
    }
    removeUppermost(taker.hookPlace);
    top.crane = crane;
    taker.load = top;
    return top.number;
  }

  /** Sets the load down; returns how high the place is then. */
  public int lay(int crane) throws IndexOutOfBoundsException, IllegalStateException {
    requireCrane(crane);
    Crane layer = cranes.get(crane);
    Barrel load = layer.load;
    int raised = heightOf(layer.hookPlace) + 1;
    if (load == null || layer.hookHeight != raised || raised > MOST_UPON_A_PLACE) {
      throw new IllegalStateException("no load can be set down");
    }
    if (!hooksAllow(layer.hookPlace, raised, crane)) {
      throw new IllegalStateException("another hook is in the way");
    }
    layer.load = null;
    load.crane = NONE;
    putUpon(layer.hookPlace, load);
    return raised;
  }

  // ---- what is there

  /** Tells of a place: 0 height, 1 uppermost barrel, 2 added weights, 3 hooks over it. */
  public int place(int place, int what) throws IndexOutOfBoundsException {
    requirePlace(place);
    requireAnswer(what, ANSWERS_OF_PLACE);
    return placeAnswer(place, what);
  }

  /** Tells of a barrel: 0 weight, 1 place, 2 barrels upon it, 3 crane, 4 whether it is broken. */
  public int barrel(int barrel, int what) throws IndexOutOfBoundsException {
    if (!isBetween(barrel, 0, barrels.size() - 1)) {
      throw new IndexOutOfBoundsException("no such barrel");
    }
    requireAnswer(what, ANSWERS_OF_BARREL);
    return barrelAnswer(barrels.get(barrel), what);
  }

  /**
   * Tells of a crane: 0 place, 1 reach, 2 drum, 3 walkers, 4 how worn its brake is, 5 place and
   * 6 height of its hook, 7 load, 8 strength.
   */
  public int crane(int crane, int what) throws IndexOutOfBoundsException {
    requireCrane(crane);
    requireAnswer(what, ANSWERS_OF_CRANE);
    return craneAnswer(cranes.get(crane), what);
  }

  /**
   * Tells of all: 0 ticks, 1 barrels, 2 standing, 3 hanging, 4 broken ones, 5 cranes, 6 height of
   * the highest place.
   */
  public int count(int what) throws IndexOutOfBoundsException {
    requireAnswer(what, ANSWERS_OF_COUNT);
    return countAnswer(what);
  }

  // ---- what would be

  /** Tells how many ticks a crane takes to bring a barrel from place to place; -1 if it cannot. */
  public int move(int crane, int from, int to) throws IndexOutOfBoundsException {
    requireCrane(crane);
    requirePlace(from);
    requirePlace(to);
    return ticksToMove(cranes.get(crane), from, to);
  }

  /** Tells which crane moves a barrel quickest; -1 if none can. */
  public int best(int from, int to) throws IndexOutOfBoundsException {
    requirePlace(from);
    requirePlace(to);
    int quickest = NONE;
    int fewest = NONE;
    for (int i = 0; i < cranes.size(); i++) {
      int needed = ticksToMove(cranes.get(i), from, to);
      if (needed != NONE && (quickest == NONE || needed < fewest)) {
        quickest = i;
        fewest = needed;
      }
    }
    return quickest;
  }

  /** Tells how many ticks a crane can lower a load of this weight, till it falls. */
  public int lasts(int crane, int weight) throws IndexOutOfBoundsException, IllegalArgumentException {
    requireCrane(crane);
    requireWeight(weight);
    int wear = wearInATick(weight);
    return wear < 1 ? 0 : (MOST_WORN - cranes.get(crane).worn) / wear;
  }

  /** Tells how many standing barrels a crane could fetch, if those upon them were away. */
  public int within(int crane) throws IndexOutOfBoundsException {
    requireCrane(crane);
    Crane fetcher = cranes.get(crane);
    int fetched = 0;
    for (int i = 0; i < barrels.size(); i++) {
      Barrel barrel = barrels.get(i);
      if (barrel.place != NONE && fetcher.reaches(barrel.place) && fetcher.canLift(barrel.weight)) {
        fetched++;
      }
    }
    return fetched;
  }

  /** Returns the mean weight of all barrels that are not broken; 0 if there are none. */
  public double mean() {
    int weights = 0;
    int whole = 0;
    for (int i = 0; i < barrels.size(); i++) {
      Barrel barrel = barrels.get(i);
      if (!barrel.broken) {
        weights += barrel.weight;
        whole++;
      }
    }
    return whole == 0 ? 0.0 : (double) weights / (double) whole;
  }

  /** Computes a checksum of all that count, place, barrel and crane tell. */
  public long digest() {
    long sum = 1151;
    for (int what = 0; what < ANSWERS_OF_COUNT; what++) {
      sum = sum * 31 + countAnswer(what);
    }
    for (int place = 0; place < PLACES; place++) {
      for (int what = 0; what < ANSWERS_OF_PLACE; what++) {
        sum = sum * 31 + placeAnswer(place, what);
      }
    }
    for (int i = 0; i < barrels.size(); i++) {
      for (int what = 0; what < ANSWERS_OF_BARREL; what++) {
        sum = sum * 31 + barrelAnswer(barrels.get(i), what);
      }
    }
    for (int i = 0; i < cranes.size(); i++) {
      for (int what = 0; what < ANSWERS_OF_CRANE; what++) {
        sum = sum * 31 + craneAnswer(cranes.get(i), what);
      }
    }
    return sum;
  }

  // ---- what a call may be given

  private static boolean isBetween(int number, int lowest, int highest) {
    return number >= lowest && number <= highest;
  }

  private static boolean isPlace(int place) {
    return isBetween(place, 0, PLACES - 1);
  }

  private static void requirePlace(int place) {
    if (!isPlace(place)) {
      throw new IndexOutOfBoundsException("no such place");
    }
  }

  private void requireCrane(int crane) {
    if (!isBetween(crane, 0, cranes.size() - 1)) {
      throw new IndexOutOfBoundsException("no such crane");
    }
  }

  private static void requireAnswer(int what, int answers) {
    if (!isBetween(what, 0, answers - 1)) {
      throw new IndexOutOfBoundsException("nothing is told under this number");
    }
  }

  private static void requireWeight(int weight) {
    if (!isBetween(weight, 1, HEAVIEST)) {
      throw new IllegalArgumentException("no such weight");
    }
  }

  private static void requireWalkers(int walkers) {
    if (!isBetween(walkers, 0, MOST_WALKERS)) {
      throw new IllegalArgumentException("no such number of walkers");
    }
  }

  // ---- the quay

  private static int distance(int from, int to) {
    return Math.abs(from - to);
  }

  private Barrel uppermostAt(int place) {
    return isPlace(place) ? uppermost[place] : null;
  }

  private int heightOf(int place) {
    Barrel top = uppermostAt(place);
    return top == null ? 0 : top.level + 1;
  }

  private int highestBetween(int from, int to) {
    int highest = 0;
    for (int place = 0; place < PLACES; place++) {
      if (isBetween(place, Math.min(from, to), Math.max(from, to))) {
        highest = Math.max(highest, heightOf(place));
      }
    }
    return highest;
  }

  private void putUpon(int place, Barrel barrel) {
    if (isPlace(place)) {
      barrel.place = place;
      barrel.level = heightOf(place);
      barrel.below = uppermost[place];
      uppermost[place] = barrel;
    }
  }

  private void removeUppermost(int place) {
    Barrel top = uppermostAt(place);
    if (top != null && isPlace(place)) {
      uppermost[place] = top.below;
      top.place = NONE;
    }
  }

  private boolean hooksAllow(int place, int height, int exceptCrane) {
    for (int i = 0; i < cranes.size(); i++) {
      Crane over = cranes.get(i);
      if (i != exceptCrane && over.hookPlace == place && over.hookHeight < over.lowestHook(height)) {
        return false;
      }
    }
    return true;
  }

  // ---- the hooks

  private static int wearInATick(int weight) {
    return weight / 20 + 1;
  }

  private int raiseHook(Crane crane, int height) {
    int needed = crane.ticksToWind(height - crane.hookHeight);
    crane.hookHeight = height;
    ticks += needed;
    return needed;
  }

  private int lowerHook(Crane crane, int height) {
    int needed = crane.ticksToWind(crane.hookHeight - height);
    Barrel load = crane.load;
    if (load != null) {
      int worn = crane.wornAfterLowering(load.weight, needed);
      if (worn > MOST_WORN) {
        dropLoad(crane);
        return NONE;
      }
      crane.worn = worn;
    }
    crane.hookHeight = height;
    ticks += needed;
    return needed;
  }

  private static void dropLoad(Crane crane) {
    Barrel load = crane.load;
    if (load != null) {
      load.crane = NONE;
      load.broken = true;
    }
    crane.load = null;
    crane.worn = MOST_WORN;
  }

  private boolean isFreeToMove(Crane crane, int from, int to) {
    return crane.load == null
        && from != to
        && crane.reaches(from)
        && crane.reaches(to)
        && heightOf(to) < MOST_UPON_A_PLACE;
  }

  private int ticksToMove(Crane crane, int from, int to) {
    Barrel moved = uppermostAt(from);
    if (moved == null || !crane.canLift(moved.weight) || !isFreeToMove(crane, from, to)) {
      return NONE;
    }
    int taken = heightOf(from);
    int laid = heightOf(to) + 1;
    int empty = Math.max(crane.hookHeight, highestBetween(crane.hookPlace, from));
    // Once the barrel is taken, the first place is 1 lower, and lets the load go at this height.
    int next = from < to ? from + 1 : from - 1;
    int loaded = Math.max(taken, highestBetween(next, to) + 1);
    int lowering = crane.ticksToWind(loaded - laid);
    if (crane.wornAfterLowering(moved.weight, lowering) > MOST_WORN) {
      return NONE;
    }
    return crane.ticksToWind(empty - crane.hookHeight)
        + distance(crane.hookPlace, from)
        + crane.ticksToWind(empty - taken)
        + crane.ticksToWind(loaded - taken)
        + distance(from, to)
        + lowering;
  }

  // ---- what the calls and the checksum tell

  private int placeAnswer(int place, int what) {
    switch (what) {
      case 0:
        return heightOf(place);
      case 1:
        return numberOf(uppermostAt(place));
      case 2:
        return weightsAt(place);
      default:
        return hooksOver(place);
    }
  }

  private int barrelAnswer(Barrel barrel, int what) {
    switch (what) {
      case 0:
        return barrel.weight;
      case 1:
        return barrel.place;
      case 2:
        return barrel.place == NONE ? 0 : heightOf(barrel.place) - barrel.level - 1;
      case 3:
        return barrel.crane;
      default:
        return barrel.broken ? 1 : 0;
    }
  }

  private static int craneAnswer(Crane crane, int what) {
    switch (what) {
      case 0:
        return crane.place;
      case 1:
        return crane.reach;
      case 2:
        return crane.drum;
      case 3:
        return crane.walkers;
      case 4:
        return crane.worn;
      case 5:
        return crane.hookPlace;
      case 6:
        return crane.hookHeight;
      case 7:
        return numberOf(crane.load);
      default:
        return crane.strength();
    }
  }

  private int countAnswer(int what) {
    switch (what) {
      case 0:
        return ticks;
      case 1:
        return barrels.size();
      case 2:
        return standing();
      case 3:
        return hanging();
      case 4:
        return barrels.size() - standing() - hanging();
      case 5:
        return cranes.size();
      default:
        return highestBetween(0, PLACES - 1);
    }
  }

  private static int numberOf(Barrel barrel) {
    return barrel == null ? NONE : barrel.number;
  }

  private int weightsAt(int place) {
    int weights = 0;
    for (Barrel barrel = uppermostAt(place); barrel != null; barrel = barrel.below) {
      weights += barrel.weight;
    }
    return weights;
  }

  private int hooksOver(int place) {
    int hooks = 0;
    for (int i = 0; i < cranes.size(); i++) {
      if (cranes.get(i).hookPlace == place) {
        hooks++;
      }
    }
    return hooks;
  }

  private int standing() {
    int number = 0;
    for (int place = 0; place < PLACES; place++) {
      number += heightOf(place);
    }
    return number;
  }

  private int hanging() {
    int number = 0;
    for (int i = 0; i < cranes.size(); i++) {
      if (cranes.get(i).load != null) {
        number++;
      }
    }
    return number;
  }
}
