import java.util.Arrays;

/**
 * A village: machines whose parts are held apart by people who may be away, or cross.
 * What each call answers is told by the document, promise by promise.
 */
public final class OnlyWhatFits {

  public static final int NONE = -1;

  private static final int BAD = -2;
  private static final int OTHER = -3;
  private static final int NOTHING = -4;
  private static final int STUCK = -5;
  private static final int FULL = -6;

  /** What calls answer instead of BAD and STUCK whose answers may be below 0. */
  private static final long BAD_GIFT = -1000000000002L;
  private static final long STUCK_GIFT = -1000000000005L;

  private static final int MOST_PARTS = 12;
  private static final int MOST_MACHINES = 6;
  private static final int MOST_PEOPLE = 8;
  private static final int MOST_SETS = 256;
  private static final int MOST_WORTH = 99;
  private static final int MOST_HAND = 9;
  private static final int TENTHS = 10;
  private static final int MOST_BY = 99;
  private static final int MOST_BYTES = 250;
  private static final int MOST_SHELVES = 8;
  private static final int MOST_ELEMENTS = 40;
  private static final int MOST_TOLD_DAYS = 20;
  private static final int MOST_DAYS = 60;
  private static final int BEST_PEOPLE = 4;
  private static final int BEST_PARTS = 6;

  private static final int SORT_BYTES = 0;
  private static final int SORT_SHORTS = 1;
  private static final int SORT_INTS = 2;
  private static final int SORT_LONGS = 3;
  private static final int SORT_BOOLEANS = 4;

  private static final int KIND_HOLDING = 0;
  private static final int KIND_WHOLE = 1;
  private static final int KIND_MIXED = 2;
  private static final int KIND_DOUBLE = 3;
  private static final int KIND_SURE = 4;
  private static final int KIND_FEW = 5;

  /** What a village's fault is taken from, so that it is told apart from the other answers. */
  private static final int FAULT_BASE = -20;

  private final Village now = new Village();
  /** A village to try things on: what it holds is free between two calls. */
  private final Village trial = new Village();
  private final Village kept = new Village();
  private boolean isKept = false;
  private final Teams teams = new Teams();
  private final Rules rules = new Rules();
  private final Search search = new Search();
  private final Tape tape = new Tape();
  private final Shelves shelves = new Shelves();
  private final int[] refusals = new int[5];
  private int daysGone = 0;
  private int yielded = 0;

  public OnlyWhatFits() {
  }

  // ---- shelves

  public int row(int s, int sort, int n) {
    if (!shelves.isShelf(s) || sort < SORT_BYTES || sort > SORT_BOOLEANS || n < 0 || n > MOST_ELEMENTS) {
      return refuse(BAD);
    }
    shelves.putRow(s, sort, n);
    return 1;
  }

  public int set(int s, int i, long v) {
    if (!shelves.isShelf(s)) {
      return refuse(BAD);
    }
    int fault = shelves.rowFault(s);
    if (fault != 0) {
      return refuse(fault);
    }
    if (i < 0 || i >= shelves.sizeOf(s)) {
      return refuse(BAD);
    }
    shelves.putElement(s, i, v);
    return 1;
  }

  public int copy(int p, int q, int i, int j, int n) {
    if (!shelves.isShelf(p) || !shelves.isShelf(q)) {
      return refuse(BAD);
    }
    if (shelves.isOfHolding(p) || shelves.isOfHolding(q)) {
      return refuse(OTHER);
    }
    if (shelves.isBare(p) || shelves.isBare(q)) {
      return refuse(NOTHING);
    }
    if (shelves.thingOn(p) != shelves.thingOn(q)) {
      return refuse(OTHER);
    }
    if (n < 0 || i < 0 || j < 0 || i > shelves.sizeOf(p) - n || j > shelves.sizeOf(q) - n) {
      return refuse(BAD);
    }
    shelves.copyElements(p, q, i, j, n);
    return n;
  }

  public long element(int s, int i) {
    return shelves.elementAt(s, i);
  }

  public int holds(int s) {
    return shelves.thingOn(s);
  }

  public int holding(int s, int kind, int a) {
    if (!shelves.isShelf(s) || kind < KIND_WHOLE || kind > KIND_FEW || a < 0 || a > MOST_BY) {
      return refuse(BAD);
    }
    shelves.putHolding(s, kind, a);
    return 1;
  }

  public int says(int s, int kind) {
    if (!shelves.isShelf(s) || kind < KIND_HOLDING || kind > KIND_FEW) {
      return refuse(BAD);
    }
    int fault = shelves.holdingFault(s);
    if (fault == 0 && !isUnder(shelves.kindOn(s), kind)) {
      fault = OTHER;
    }
    if (fault != 0) {
      return refuse(fault);
    }
    if (kind == KIND_HOLDING) {
      return shelves.byOn(s);
    }
    tryHolding(s);
    return kind == KIND_DOUBLE ? trial.secondCount() : trial.holderCount();
  }

  // ---- making the village

  public int part() {
    if (now.parts >= MOST_PARTS) {
      return refuse(FULL);
    }
    return now.addPart();
  }

  public int machine(int needs, int worth) {
    if (needs == 0 || !now.isSetOfParts(needs) || worth < 1 || worth > MOST_WORTH) {
      return refuse(BAD);
    }
    if (now.machines >= MOST_MACHINES) {
      return refuse(FULL);
    }
    return now.addMachine(needs, worth);
  }

  public int one(int hand, int away) {
    if (hand < 0 || hand > MOST_HAND || away < 0 || away > TENTHS) {
      return refuse(BAD);
    }
    if (now.people >= MOST_PEOPLE) {
      return refuse(FULL);
    }
    return now.addOne(hand, away);
  }

  public int away(int one, int v) {
    if (!now.isOne(one) || v < 0 || v > TENTHS) {
      return refuse(BAD);
    }
    int before = now.away[one];
    now.away[one] = v;
    return before;
  }

  public int cross(int one, boolean is) {
    if (!now.isOne(one)) {
      return refuse(BAD);
    }
    if (now.isCross[one] == is) {
      return 0;
    }
    now.isCross[one] = is;
    return 1;
  }

  public int give(int part, int one, boolean second) {
    if (!now.isPart(part) || one != NONE && !now.isOne(one)) {
      return refuse(BAD);
    }
    int before = second ? now.second[part] : now.holder[part];
    if (one != NONE && one != before && !now.hasRoom(one)) {
      return refuse(STUCK);
    }
    if (second) {
      now.second[part] = one;
    } else {
      now.holder[part] = one;
    }
    return before;
  }

  // ---- the tape

  public int feed(int v, int n) {
    if (n < 1 || n > 4) {
      return refuse(BAD);
    }
    if (tape.length() + n > MOST_BYTES) {
      return refuse(FULL);
    }
    for (int k = n - 1; k >= 0; k--) {
      tape.append(v >> 8 * k);
    }
    return tape.length();
  }

  public int wipe() {
    int before = tape.length();
    tape.clear();
    return before;
  }

  public int village() {
    trial.takeOver(now);
    int statements = tape.readInto(trial);
    int fault = tape.faultPlace();
    tape.clear();
    if (statements < 0) {
      refuse(BAD);
      return FAULT_BASE - fault;
    }
    now.takeOver(trial);
    return statements;
  }

  // ---- what there is

  public int partOf(int part, int what) {
    if (!now.isPart(part) || what < 0 || what > 1) {
      return refuse(BAD);
    }
    return what == 0 ? now.holder[part] : now.second[part];
  }

  public int machineOf(int machine, int what) {
    if (!now.isMachine(machine) || what < 0 || what > 1) {
      return refuse(BAD);
    }
    return what == 0 ? now.needs[machine] : now.worth[machine];
  }

  public int oneOf(int one, int what) {
    if (!now.isOne(one)) {
      return refuse(BAD);
    }
    switch (what) {
      case 0:
        return now.hand[one];
      case 1:
        return now.away[one];
      case 2:
        return now.isCross[one] ? 1 : 0;
      case 3:
        return now.piecesOf(one);
      case 4:
        return now.shares[one];
      default:
        return refuse(BAD);
    }
  }

  // ---- working

  public int has(int people) {
    if (!now.isSetOfPeople(people)) {
      return refuse(BAD);
    }
    return now.partsWith(people);
  }

  public int works(int machine, int people) {
    if (!now.isMachine(machine) || !now.isSetOfPeople(people)) {
      return refuse(BAD);
    }
    return now.isWorkedWith(machine, now.partsWith(people)) ? 1 : 0;
  }

  public int both(int machine, int other, int people) {
    if (!now.isPair(machine, other) || !now.isSetOfPeople(people)) {
      return refuse(BAD);
    }
    return now.areBothWorked(machine, other, people) ? 1 : 0;
  }

  public long odds(int machine) {
    if (!now.isMachine(machine)) {
      return refuse(BAD);
    }
    return teams.oddsOf(now, machine);
  }

  public long atOnce(int machine, int other) {
    if (!now.isPair(machine, other)) {
      return refuse(BAD);
    }
    return teams.oddsOfPair(now, machine, other);
  }

  public long day() {
    return teams.worthOfDay(now);
  }

  public int power(int machine, int one) {
    if (!now.isMachine(machine) || !now.isOne(one)) {
      return refuse(BAD);
    }
    teams.gather(now);
    return teams.turnsOn(now, machine, one);
  }

  public int first() {
    if (now.people == 0) {
      return refuse(STUCK);
    }
    teams.gather(now);
    int found = 0;
    long most = -1;
    for (int o = 0; o < now.people; o++) {
      long turns = teams.worthOfTurnsOn(now, o);
      if (turns > most) {
        most = turns;
        found = o;
      }
    }
    return found;
  }

  // ---- holdings

  public int lay(int s) {
    if (!shelves.isShelf(s)) {
      return refuse(BAD);
    }
    int fault = shelves.holdingFault(s);
    if (fault != 0) {
      return refuse(fault);
    }
    rules.tellAnew(now, shelves.kindOn(s), shelves.byOn(s));
    return now.holderCount();
  }

  public long would(int s) {
    if (!shelves.isShelf(s)) {
      return refuse(BAD);
    }
    int fault = shelves.holdingFault(s);
    if (fault != 0) {
      return refuse(fault);
    }
    tryHolding(s);
    return teams.worthOfDay(trial);
  }

  public int head() {
    int found = NONE;
    long most = -1;
    for (int s = 0; s < MOST_SHELVES; s++) {
      if (shelves.isOfHolding(s)) {
        tryHolding(s);
        long worth = teams.worthOfDay(trial);
        if (worth > most) {
          most = worth;
          found = s;
        }
      }
    }
    return found == NONE ? refuse(STUCK) : found;
  }

  public int best(int part) {
    if (!now.isPart(part)) {
      return refuse(BAD);
    }
    if (isTooBigForBest()) {
      return refuse(STUCK);
    }
    search.run(now);
    return search.holderOf(part);
  }

  public long bestDay() {
    if (isTooBigForBest()) {
      return refuse(STUCK);
    }
    search.run(now);
    return search.greatestDay();
  }

  // ---- what is best and what is worst

  public int bears(int machine) {
    if (!now.isMachine(machine)) {
      return refuse(BAD);
    }
    teams.gather(now);
    int most = teams.bornBy(now, machine);
    return most == NONE ? refuse(STUCK) : most;
  }

  public int harms() {
    int found = NONE;
    long least = 0;
    for (int o = 0; o < now.people; o++) {
      if (!now.isCross[o]) {
        trial.takeOver(now);
        trial.isCross[o] = true;
        long worth = teams.worthOfDay(trial);
        if (found == NONE || worth < least) {
          least = worth;
          found = o;
        }
      }
    }
    return found == NONE ? refuse(STUCK) : found;
  }

  public int least() {
    teams.gather(now);
    int all = now.allPeople();
    int found = all;
    for (int gone = 0; gone < all; gone++) {
      if (Integer.bitCount(gone) < Integer.bitCount(found) && !now.isAnyWorkedWith(teams.partsOf(all & ~gone))) {
        found = gone;
      }
    }
    return found;
  }

  public int stolen() {
    int held = now.partsWith(now.allPeople());
    int all = now.allParts();
    int found = all;
    for (int gone = 0; gone < all; gone++) {
      if (Integer.bitCount(gone) < Integer.bitCount(found) && !now.isAnyWorkedWith(held & ~gone)) {
        found = gone;
      }
    }
    return found;
  }

  public int spare() {
    trial.takeOver(now);
    int found = NONE;
    long most = teams.worthOfDay(trial);
    for (int p = 0; p < now.parts; p++) {
      if (now.second[p] == NONE) {
        for (int o = 0; o < now.people; o++) {
          if (o != now.holder[p] && now.hasRoom(o)) {
            trial.second[p] = o;
            long worth = teams.worthAsWeighed(trial);
            if (worth > most) {
              most = worth;
              found = 10 * p + o;
            }
          }
        }
        trial.second[p] = NONE;
      }
    }
    return found;
  }

  public long gift(int part, int one) {
    if (!now.isPart(part) || !now.isOne(one)) {
      refuse(BAD);
      return BAD_GIFT;
    }
    if (now.holder[part] != one && !now.hasRoom(one)) {
      refuse(STUCK);
      return STUCK_GIFT;
    }
    trial.takeOver(now);
    trial.holder[part] = one;
    return teams.worthOfDay(trial) - teams.worthOfDay(now);
  }

  public int never(boolean machines) {
    int held = now.partsWith(now.allPeople());
    if (!machines) {
      return now.allParts() & ~held;
    }
    return now.allMachines() & ~now.machinesWith(held);
  }

  public int with(int machine) {
    if (!now.isMachine(machine)) {
      return refuse(BAD);
    }
    teams.gather(now);
    int found = NONE;
    for (int set = 0; set <= now.allPeople(); set++) {
      boolean isFewer = found == NONE || Integer.bitCount(set) < Integer.bitCount(found);
      if (isFewer && now.isWorkedWith(machine, teams.partsOf(set))) {
        found = set;
      }
    }
    return found == NONE ? refuse(STUCK) : found;
  }

  public int safe(int k) {
    if (k < 0 || k > MOST_PEOPLE) {
      return refuse(BAD);
    }
    teams.gather(now);
    int found = 0;
    for (int m = 0; m < now.machines; m++) {
      if (teams.bornBy(now, m) >= k) {
        found |= 1 << m;
      }
    }
    return found;
  }

  public int alone(int one) {
    if (!now.isOne(one)) {
      return refuse(BAD);
    }
    return now.machinesWith(now.partsOfOne(one));
  }

  public int key() {
    if (now.people == 0) {
      return refuse(STUCK);
    }
    int found = 0;
    int most = -1;
    for (int o = 0; o < now.people; o++) {
      int touched = now.machinesTouchedBy(now.partsOfOne(o));
      if (touched > most) {
        most = touched;
        found = o;
      }
    }
    return found;
  }

  public int idle() {
    teams.gather(now);
    int found = 0;
    for (int o = 0; o < now.people; o++) {
      if (teams.worthOfTurnsOn(now, o) == 0) {
        found |= 1 << o;
      }
    }
    return found;
  }

  public int room() {
    int sum = 0;
    for (int o = 0; o < now.people; o++) {
      sum += now.hand[o] - now.piecesOf(o);
    }
    return sum;
  }

  public int swap(int part, int other) {
    if (!now.isPart(part) || !now.isPart(other)) {
      return refuse(BAD);
    }
    int held = now.holder[part];
    if (held == now.holder[other]) {
      return 0;
    }
    now.holder[part] = now.holder[other];
    now.holder[other] = held;
    return 1;
  }

  public long trust(int one, int other) {
    if (!now.isOne(one) || !now.isOne(other) || one == other) {
      refuse(BAD);
      return BAD_GIFT;
    }
    trial.takeOver(now);
    trial.handOver(one, other);
    return teams.worthOfDay(trial) - teams.worthOfDay(now);
  }

  // ---- days

  public int judge(int machine, int s, int n) {
    if (!now.isMachine(machine)) {
      return refuse(BAD);
    }
    int fault = toldFault(s, n);
    if (fault != 0) {
      return refuse(fault);
    }
    for (int d = 0; d < n; d++) {
      if (!now.isWorkedWith(machine, partsOnToldDay(s, d))) {
        return d;
      }
    }
    return NONE;
  }

  public int told(int s, int n) {
    int fault = toldFault(s, n);
    if (fault != 0) {
      return refuse(fault);
    }
    int sum = 0;
    for (int d = 0; d < n; d++) {
      sum += now.worthWith(partsOnToldDay(s, d));
    }
    return sum;
  }

  public int days(int n) {
    if (n < 1 || n > MOST_DAYS) {
      return refuse(BAD);
    }
    int sum = 0;
    for (int d = 0; d < n; d++) {
      sum += now.passDay();
    }
    daysGone += n;
    yielded += sum;
    return sum;
  }

  public int seed(int v) {
    int before = now.seed;
    now.seed = v;
    return before;
  }

  public int image() {
    kept.takeOver(now);
    isKept = true;
    return 1;
  }

  public int back() {
    if (!isKept) {
      return refuse(STUCK);
    }
    now.takeOver(kept);
    return 1;
  }

  public int status(int what) {
    switch (what) {
      case 0:
        return now.parts;
      case 1:
        return now.machines;
      case 2:
        return now.people;
      case 3:
        return Integer.bitCount(now.crossPeople());
      case 4:
        return now.holderCount() + now.secondCount();
      case 5:
        return daysGone;
      case 6:
        return yielded;
      case 7:
        return tape.length();
      case 8:
        return now.seed;
      case 9:
        return shelves.fullCount();
      default:
        return what >= 12 && what <= 16 ? refusals[what - 12] : NONE;
    }
  }

  // ---- helpers of the calls

  /** Counts a refusal, and answers its number. */
  private int refuse(int why) {
    int place = BAD - why;
    if (place >= 0 && place < refusals.length) {
      refusals[place]++;
    }
    return why;
  }

  /** Whether a kind is another one, or under it. */
  private static boolean isUnder(int kind, int other) {
    if (kind == other || other == KIND_HOLDING) {
      return true;
    }
    if (other == KIND_WHOLE) {
      return kind == KIND_FEW;
    }
    return other == KIND_MIXED && (kind == KIND_DOUBLE || kind == KIND_SURE);
  }

  /** The trial village becomes the present one, held by the holding on a shelf. */
  private void tryHolding(int s) {
    trial.takeOver(now);
    rules.tellAnew(trial, shelves.kindOn(s), shelves.byOn(s));
  }

  private boolean isTooBigForBest() {
    return now.people > BEST_PEOPLE || now.parts > BEST_PARTS;
  }

  /** Why the first n days of a shelf's row can't be told; 0: they can. */
  private int toldFault(int s, int n) {
    if (!shelves.isShelf(s) || n < 0 || n > MOST_TOLD_DAYS) {
      return BAD;
    }
    int fault = shelves.rowFault(s);
    if (fault != 0) {
      return fault;
    }
    return shelves.sizeOf(s) < n ? BAD : 0;
  }

  /** The parts that those have who come on a told day. */
  private int partsOnToldDay(int s, int d) {
    int told = (int) shelves.elementAt(s, d);
    return now.partsWith(told & now.allPeople() & ~now.crossPeople());
  }

  // ---- classes inside

  /** What there is: parts, machines, people, and the seed of their days. */
  private static final class Village {
    int parts = 0;
    final int[] holder = new int[MOST_PARTS];
    final int[] second = new int[MOST_PARTS];
    int machines = 0;
    final int[] needs = new int[MOST_MACHINES];
    final int[] worth = new int[MOST_MACHINES];
    int people = 0;
    final int[] hand = new int[MOST_PEOPLE];
    final int[] away = new int[MOST_PEOPLE];
    final boolean[] isCross = new boolean[MOST_PEOPLE];
    final int[] shares = new int[MOST_PEOPLE];
    int seed = 1;

    void takeOver(Village from) {
      parts = from.parts;
      System.arraycopy(from.holder, 0, holder, 0, MOST_PARTS);
      System.arraycopy(from.second, 0, second, 0, MOST_PARTS);
      machines = from.machines;
      System.arraycopy(from.needs, 0, needs, 0, MOST_MACHINES);
      System.arraycopy(from.worth, 0, worth, 0, MOST_MACHINES);
      people = from.people;
      System.arraycopy(from.hand, 0, hand, 0, MOST_PEOPLE);
      System.arraycopy(from.away, 0, away, 0, MOST_PEOPLE);
      System.arraycopy(from.isCross, 0, isCross, 0, MOST_PEOPLE);
      System.arraycopy(from.shares, 0, shares, 0, MOST_PEOPLE);
      seed = from.seed;
    }

    /** Adds a part; the caller has seen to it that there is room. */
    int addPart() {
      if (parts >= MOST_PARTS) {
        return NONE;
      }
      holder[parts] = NONE;
      second[parts] = NONE;
      parts++;
      return parts - 1;
    }

    /** Adds a machine; the caller has seen to it that there is room. */
    int addMachine(int itsNeeds, int itsWorth) {
      if (machines >= MOST_MACHINES) {
        return NONE;
      }
      needs[machines] = itsNeeds;
      worth[machines] = itsWorth;
      machines++;
      return machines - 1;
    }

    /** Adds one of the people; the caller has seen to it that there is room. */
    int addOne(int theirHand, int theirAway) {
      if (people >= MOST_PEOPLE) {
        return NONE;
      }
      hand[people] = theirHand;
      away[people] = theirAway;
      isCross[people] = false;
      shares[people] = 0;
      people++;
      return people - 1;
    }

    boolean isPart(int p) {
      return p >= 0 && p < parts;
    }

    boolean isMachine(int m) {
      return m >= 0 && m < machines;
    }

    boolean isPair(int m, int other) {
      return isMachine(m) && isMachine(other) && m != other;
    }

    boolean isOne(int o) {
      return o >= 0 && o < people;
    }

    int allParts() {
      return (1 << parts) - 1;
    }

    int allMachines() {
      return (1 << machines) - 1;
    }

    int allPeople() {
      return (1 << people) - 1;
    }

    boolean isSetOfParts(int set) {
      return (set & ~allParts()) == 0;
    }

    boolean isSetOfPeople(int set) {
      return (set & ~allPeople()) == 0;
    }

    int crossPeople() {
      int set = 0;
      for (int o = 0; o < people; o++) {
        if (isCross[o]) {
          set |= 1 << o;
        }
      }
      return set;
    }

    int piecesOf(int one) {
      int count = 0;
      for (int p = 0; p < parts; p++) {
        if (holder[p] == one) {
          count++;
        }
        if (second[p] == one) {
          count++;
        }
      }
      return count;
    }

    boolean hasRoom(int one) {
      return isOne(one) && piecesOf(one) < hand[one];
    }

    int holderCount() {
      int count = 0;
      for (int p = 0; p < parts; p++) {
        if (holder[p] != NONE) {
          count++;
        }
      }
      return count;
    }

    int secondCount() {
      int count = 0;
      for (int p = 0; p < parts; p++) {
        if (second[p] != NONE) {
          count++;
        }
      }
      return count;
    }

    int partsOfOne(int one) {
      int set = 0;
      for (int p = 0; p < parts; p++) {
        if (holder[p] == one || second[p] == one) {
          set |= 1 << p;
        }
      }
      return set;
    }

    /** The parts that a set of people has. */
    int partsWith(int set) {
      int found = 0;
      for (int p = 0; p < parts; p++) {
        if (isIn(set, holder[p]) || isIn(set, second[p])) {
          found |= 1 << p;
        }
      }
      return found;
    }

    /** The parts of which a set of people has both pieces. */
    int doublesWith(int set) {
      int found = 0;
      for (int p = 0; p < parts; p++) {
        if (isIn(set, holder[p]) && isIn(set, second[p])) {
          found |= 1 << p;
        }
      }
      return found;
    }

    static boolean isIn(int set, int one) {
      return one != NONE && (set & 1 << one) != 0;
    }

    /** Whether a machine's needs are all among some parts. */
    boolean isWorkedWith(int m, int someParts) {
      return isMachine(m) && (needs[m] & ~someParts) == 0;
    }

    boolean isAnyWorkedWith(int someParts) {
      return machinesWith(someParts) != 0;
    }

    /** The machines whose needs are all among some parts. */
    int machinesWith(int someParts) {
      int found = 0;
      for (int m = 0; m < machines; m++) {
        if ((needs[m] & ~someParts) == 0) {
          found |= 1 << m;
        }
      }
      return found;
    }

    /** How many machines need one of some parts. */
    int machinesTouchedBy(int someParts) {
      int count = 0;
      for (int m = 0; m < machines; m++) {
        if ((needs[m] & someParts) != 0) {
          count++;
        }
      }
      return count;
    }

    boolean areBothWorked(int m, int other, int set) {
      if (!isPair(m, other)) {
        return false;
      }
      boolean isEach = ((needs[m] | needs[other]) & ~partsWith(set)) == 0;
      return isEach && (needs[m] & needs[other] & ~doublesWith(set)) == 0;
    }

    /** The worth of all machines whose needs are all among some parts. */
    int worthWith(int someParts) {
      int sum = 0;
      for (int m = 0; m < machines; m++) {
        if ((needs[m] & ~someParts) == 0) {
          sum += worth[m];
        }
      }
      return sum;
    }

    /** All pieces of one become those of another. */
    void handOver(int one, int other) {
      for (int p = 0; p < parts; p++) {
        if (holder[p] == one) {
          holder[p] = other;
        }
        if (second[p] == one) {
          second[p] = other;
        }
      }
    }

    /** A day in truth goes by: what it yields. */
    int passDay() {
      int come = 0;
      for (int o = 0; o < people; o++) {
        if (!isCross[o] && drawTenth() >= away[o]) {
          come |= 1 << o;
        }
      }
      int there = partsWith(come);
      for (int m = 0; m < machines; m++) {
        if ((needs[m] & ~there) == 0) {
          shareOut(needs[m]);
        }
      }
      return worthWith(there);
    }

    /** A draw below 10. */
    int drawTenth() {
      seed = seed * 1103515245 + 12345;
      return (seed >>> 16) % TENTHS;
    }

    /** One share more for each holder of one of these parts, once only. */
    void shareOut(int itsNeeds) {
      int owners = 0;
      for (int p = 0; p < parts; p++) {
        if ((itsNeeds & 1 << p) != 0 && holder[p] != NONE) {
          owners |= 1 << holder[p];
        }
      }
      for (int o = 0; o < people; o++) {
        if ((owners & 1 << o) != 0) {
          shares[o]++;
        }
      }
    }
  }

  /** What sets of people have, and how likely it is that just they come: rows by the sets' bits. */
  private static final class Teams {
    private final long[] weights = new long[MOST_SETS];
    private final int[] partsOfSet = new int[MOST_SETS];
    /** How many orders a number of people can come in. */
    private final int[] orders = new int[MOST_PEOPLE];

    Teams() {
      int product = 1;
      for (int k = 0; k < MOST_PEOPLE; k++) {
        product = k == 0 ? 1 : product * k;
        orders[k] = product;
      }
    }

    /** Finds out how likely each set is to come, of 10 to the power of how many people there are. */
    void weigh(Village v) {
      weights[0] = 1;
      for (int o = 0; o < v.people; o++) {
        int tenthsAway = v.isCross[o] ? TENTHS : v.away[o];
        int bit = 1 << o;
        for (int set = 0; set < bit; set++) {
          weights[set | bit] = weights[set] * (TENTHS - tenthsAway);
          weights[set] = weights[set] * tenthsAway;
        }
      }
    }

    /** Finds out which parts each set has. */
    void gather(Village v) {
      partsOfSet[0] = 0;
      for (int o = 0; o < v.people; o++) {
        int own = v.partsOfOne(o);
        int bit = 1 << o;
        for (int set = 0; set < bit; set++) {
          partsOfSet[set | bit] = partsOfSet[set] | own;
        }
      }
    }

    int partsOf(int set) {
      return set >= 0 && set < MOST_SETS ? partsOfSet[set] : 0;
    }

    long oddsOf(Village v, int m) {
      weigh(v);
      gather(v);
      long sum = 0;
      for (int set = 0; set <= v.allPeople(); set++) {
        if (v.isWorkedWith(m, partsOfSet[set])) {
          sum += weights[set];
        }
      }
      return sum;
    }

    long oddsOfPair(Village v, int m, int other) {
      weigh(v);
      long sum = 0;
      for (int set = 0; set <= v.allPeople(); set++) {
        if (weights[set] != 0 && v.areBothWorked(m, other, set)) {
          sum += weights[set];
        }
      }
      return sum;
    }

    long worthOfDay(Village v) {
      weigh(v);
      return worthAsWeighed(v);
    }

    /** A day's worth, if how likely each set comes is known from before: pieces don't change that. */
    long worthAsWeighed(Village v) {
      gather(v);
      long sum = 0;
      for (int set = 0; set <= v.allPeople(); set++) {
        if (weights[set] != 0) {
          sum += weights[set] * v.worthWith(partsOfSet[set]);
        }
      }
      return sum;
    }

    /**
     * In how many orders a machine turns on one: those ahead of them may come in any order, and
     * so may those behind. What sets have must have been found out.
     */
    int turnsOn(Village v, int m, int one) {
      int bit = 1 << one;
      int sum = 0;
      for (int set = 0; set <= v.allPeople(); set++) {
        boolean isAhead = (set & bit) == 0;
        if (isAhead && !v.isWorkedWith(m, partsOfSet[set]) && v.isWorkedWith(m, partsOf(set | bit))) {
          int ahead = Integer.bitCount(set);
          sum += ordersOf(ahead) * ordersOf(v.people - 1 - ahead);
        }
      }
      return sum;
    }

    private int ordersOf(int count) {
      return count >= 0 && count < orders.length ? orders[count] : 0;
    }

    /** Turns on one, of all machines together times their worth. */
    long worthOfTurnsOn(Village v, int one) {
      long sum = 0;
      for (int m = 0; m < v.machines; m++) {
        sum += (long) v.worth[m] * turnsOn(v, m, one);
      }
      return sum;
    }

    /**
     * How many of the people who aren't cross may stay away, whoever they are, and a machine is
     * still worked; NONE: not even none. What sets have must have been found out.
     */
    int bornBy(Village v, int m) {
      int willing = v.allPeople() & ~v.crossPeople();
      int fewest = MOST_PEOPLE + 1;
      for (int gone = 0; gone <= willing; gone++) {
        if ((gone & ~willing) == 0 && !v.isWorkedWith(m, partsOf(willing & ~gone))) {
          fewest = Math.min(fewest, Integer.bitCount(gone));
        }
      }
      return fewest - 1;
    }
  }

  /** The rules by which holdings tell who holds what. */
  private static final class Rules {
    /** How many pieces more each of the people can hold, while a holding tells who holds what. */
    private final int[] room = new int[MOST_PEOPLE];

    /** All parts of a village are held anew by a holding. */
    void tellAnew(Village v, int kind, int by) {
      for (int p = 0; p < v.parts; p++) {
        v.holder[p] = NONE;
        v.second[p] = NONE;
      }
      for (int o = 0; o < v.people; o++) {
        room[o] = v.hand[o];
      }
      switch (kind) {
        case KIND_WHOLE:
          giveWhole(v, v.people);
          break;
        case KIND_MIXED:
          giveRound(v, by);
          break;
        case KIND_DOUBLE:
          giveRoundAgain(v, giveRound(v, by));
          break;
        case KIND_SURE:
          giveSure(v);
          break;
        case KIND_FEW:
          giveWhole(v, by == 0 ? v.people : Math.min(by, v.people));
          break;
        default:
          break;
      }
    }

    /** Machine by machine, among the first of the people. */
    private void giveWhole(Village v, int among) {
      int done = 0;
      for (int k = 0; k < v.machines; k++) {
        int m = worthiest(v, done);
        if (m != NONE) {
          done |= 1 << m;
          giveNeeds(v, v.needs[m], among);
        }
      }
      for (int p = 0; p < v.parts; p++) {
        if (v.holder[p] == NONE) {
          v.holder[p] = taken(firstWithRoom(v.allPeople(), among));
        }
      }
    }

    /** The machine of the greatest worth that isn't done yet. */
    private int worthiest(Village v, int done) {
      int found = NONE;
      int most = 0;
      for (int m = 0; m < v.machines; m++) {
        if ((done & 1 << m) == 0 && v.worth[m] > most) {
          most = v.worth[m];
          found = m;
        }
      }
      return found;
    }

    /** A machine's parts, to those first who were given one of them. */
    private void giveNeeds(Village v, int needs, int among) {
      int owners = 0;
      for (int p = 0; p < v.parts; p++) {
        if ((needs & 1 << p) != 0 && v.holder[p] != NONE) {
          owners |= 1 << v.holder[p];
        }
      }
      for (int p = 0; p < v.parts; p++) {
        if ((needs & 1 << p) != 0 && v.holder[p] == NONE) {
          int one = firstWithRoom(owners, among);
          if (one == NONE) {
            one = firstWithRoom(v.allPeople(), among);
          }
          if (one != NONE) {
            v.holder[p] = taken(one);
            owners |= 1 << one;
          }
        }
      }
    }

    /** The first one with room of a set, and among the first of the people. */
    private int firstWithRoom(int set, int among) {
      for (int o = 0; o < among && o < MOST_PEOPLE; o++) {
        if ((set & 1 << o) != 0 && room[o] > 0) {
          return o;
        }
      }
      return NONE;
    }

    /** The same one, with room for one piece less; NONE stays NONE. */
    private int taken(int one) {
      if (one >= 0 && one < MOST_PEOPLE) {
        room[one]--;
      }
      return one;
    }

    /** Part by part round and round, from number by on: the one with whom it goes on. */
    private int giveRound(Village v, int by) {
      int next = v.people == 0 ? 0 : by % v.people;
      for (int p = 0; p < v.parts; p++) {
        int one = nextWithRoom(v, next, NONE);
        v.holder[p] = taken(one);
        next = one == NONE ? next : one + 1;
      }
      return next;
    }

    /** Second pieces, round and round from one on, but none to a holder of the same part. */
    private void giveRoundAgain(Village v, int from) {
      int next = from;
      for (int p = 0; p < v.parts; p++) {
        int one = nextWithRoom(v, next, v.holder[p]);
        v.second[p] = taken(one);
        next = one == NONE ? next : one + 1;
      }
    }

    /** The next one with room, from a number on (the people's number stands for the first). */
    private int nextWithRoom(Village v, int from, int but) {
      for (int k = 0; k < v.people; k++) {
        int one = from + k;
        if (one >= v.people) {
          one -= v.people;
        }
        if (one != but && one >= 0 && one < v.people && room[one] > 0) {
          return one;
        }
      }
      return NONE;
    }

    /** Part by part to the one with room who is away least. */
    private void giveSure(Village v) {
      for (int p = 0; p < v.parts; p++) {
        int found = NONE;
        int least = TENTHS + 1;
        for (int o = 0; o < v.people; o++) {
          if (v.away[o] < least && room[o] > 0) {
            least = v.away[o];
            found = o;
          }
        }
        v.holder[p] = taken(found);
      }
    }
  }

  /** The search for the holders by whom a day is worth most, of all ways to give each part one. */
  private static final class Search {
    /** Stands among a machine's owners for a part that nobody holds. */
    private static final int NOBODY = 1 << BEST_PEOPLE;

    private final int[] chosen = new int[BEST_PARTS];
    private final int[] greatest = new int[BEST_PARTS];
    private final int[] room = new int[BEST_PEOPLE];
    /** Owners (bits) of each machine's parts, as far as the parts ahead of a number are given. */
    private final int[][] owners = new int[BEST_PARTS + 1][MOST_MACHINES];
    /** How likely it is that owners (bits) all come: where nobody is one of them, it stays 0. */
    private final long[] odds = new long[2 * NOBODY];
    private long most = -1;

    /** Searches a village with no more people and parts than it can be done for. */
    void run(Village v) {
      most = -1;
      if (v.people > BEST_PEOPLE || v.parts > BEST_PARTS) {
        return;
      }
      for (int set = 0; set < NOBODY; set++) {
        odds[set] = oddsThatAllCome(v, set);
      }
      for (int o = 0; o < v.people; o++) {
        room[o] = v.hand[o];
      }
      for (int m = 0; m < v.machines; m++) {
        owners[0][m] = 0;
      }
      choose(this, v, 0);
    }

    int holderOf(int p) {
      return p >= 0 && p < greatest.length ? greatest[p] : NONE;
    }

    long greatestDay() {
      return most;
    }

    private long oddsThatAllCome(Village v, int set) {
      long product = 1;
      for (int o = 0; o < v.people; o++) {
        int tenthsThere = v.isCross[o] ? 0 : TENTHS - v.away[o];
        product *= (set & 1 << o) != 0 ? tenthsThere : TENTHS;
      }
      return product;
    }

    /** Tries all holders of part p and of those behind, nobody first: the first of several is kept. */
    private static void choose(Search s, Village v, int p) {
      if (p >= v.parts || p >= BEST_PARTS) {
        s.weigh(v, p);
        return;
      }
      for (int o = NONE; o < v.people; o++) {
        if (o == NONE) {
          s.take(v, p, NOBODY);
          s.chosen[p] = NONE;
          choose(s, v, p + 1);
        } else if (s.room[o] > 0) {
          s.take(v, p, 1 << o);
          s.chosen[p] = o;
          s.room[o]--;
          choose(s, v, p + 1);
          s.room[o]++;
        }
      }
    }

    /** The owner of part p is put among those of each machine that needs it. */
    private void take(Village v, int p, int owner) {
      for (int m = 0; m < v.machines; m++) {
        boolean isNeeded = (v.needs[m] & 1 << p) != 0;
        owners[p + 1][m] = isNeeded ? owners[p][m] | owner : owners[p][m];
      }
    }

    /** Keeps what is chosen, if a day is worth more by it than by all ahead. */
    private void weigh(Village v, int given) {
      long sum = 0;
      for (int m = 0; m < v.machines; m++) {
        sum += v.worth[m] * odds[owners[given][m]];
      }
      if (sum > most) {
        most = sum;
        System.arraycopy(chosen, 0, greatest, 0, given);
      }
    }
  }

  /** Bytes from which a village is read, token by token. */
  private static final class Tape {
    private static final int WORD = 0;
    private static final int NUMBER = 1;
    private static final int SIGN = 2;
    private static final int END = 3;
    private static final int NO_TOKEN = 4;

    private static final int BLANKS = 0;
    private static final int LETTERS = 1;
    private static final int DIGITS = 2;

    private final byte[] bytes = new byte[MOST_BYTES];
    private int size = 0;
    /** The token being looked at: its sort, its first byte's place, the place behind it. */
    private int token = END;
    private int start = 0;
    private int end = 0;

    int length() {
      return size;
    }

    void append(int b) {
      if (size < MOST_BYTES) {
        bytes[size] = (byte) b;
        size++;
      }
    }

    void clear() {
      size = 0;
    }

    /** The place of the token at which reading ended. */
    int faultPlace() {
      return start;
    }

    /** Reads all into a village: how many statements; NONE: the token being looked at can't stand there. */
    int readInto(Village v) {
      end = 0;
      step();
      for (int statements = 1; statements <= MOST_BYTES; statements++) {
        if (!readStatement(v)) {
          return NONE;
        }
        if (token == END) {
          return statements;
        }
        if (token != SIGN) {
          return NONE;
        }
        step();
      }
      return NONE;
    }

    private boolean readStatement(Village v) {
      if (isWord("part")) {
        return readPart(v);
      }
      if (isWord("machine")) {
        return readMachine(v);
      }
      if (isWord("one")) {
        return readOne(v);
      }
      return isWord("gives") && readGives(v);
    }

    private boolean readPart(Village v) {
      int part = v.addPart();
      if (part == NONE) {
        return false;
      }
      step();
      if (isWord("by")) {
        step();
        int one = numberIn(0, v.people - 1);
        if (!v.hasRoom(one)) {
          return false;
        }
        v.holder[part] = one;
        step();
      }
      if (isWord("second")) {
        step();
        int one = numberIn(0, v.people - 1);
        if (!v.hasRoom(one)) {
          return false;
        }
        v.second[part] = one;
        step();
      }
      return true;
    }

    private boolean readMachine(Village v) {
      if (v.machines >= MOST_MACHINES) {
        return false;
      }
      step();
      int worth = numberIn(1, MOST_WORTH);
      if (worth == NONE) {
        return false;
      }
      step();
      if (!isWord("need")) {
        return false;
      }
      int needs = 0;
      boolean isMore = true;
      for (int k = 0; k < MOST_BYTES && isMore; k++) {
        step();
        int part = numberIn(0, v.parts - 1);
        if (part == NONE) {
          return false;
        }
        needs |= 1 << part;
        step();
        isMore = isWord("and");
      }
      v.addMachine(needs, worth);
      return true;
    }

    private boolean readOne(Village v) {
      if (v.people >= MOST_PEOPLE) {
        return false;
      }
      step();
      int hand = numberIn(0, MOST_HAND);
      if (hand == NONE) {
        return false;
      }
      step();
      int away = 0;
      if (isWord("away")) {
        step();
        away = numberIn(0, TENTHS);
        if (away == NONE) {
          return false;
        }
        step();
      }
      int one = v.addOne(hand, away);
      if (one != NONE && isWord("cross")) {
        v.isCross[one] = true;
        step();
      }
      return one != NONE;
    }

    private boolean readGives(Village v) {
      step();
      int part = numberIn(0, v.parts - 1);
      if (part == NONE) {
        return false;
      }
      step();
      int one = numberIn(0, v.people - 1);
      if (one == NONE || v.holder[part] != one && !v.hasRoom(one)) {
        return false;
      }
      v.holder[part] = one;
      step();
      return true;
    }

    /** Looks at the next token, the longest that begins behind the one ahead. */
    private void step() {
      start = endOf(BLANKS, end);
      int first = byteAt(start);
      if (start >= size) {
        token = END;
        end = start;
      } else if (isOf(LETTERS, first)) {
        token = WORD;
        end = endOf(LETTERS, start);
      } else if (isOf(DIGITS, first)) {
        token = NUMBER;
        end = endOf(DIGITS, start);
      } else {
        token = first == ';' ? SIGN : NO_TOKEN;
        end = start + 1;
      }
    }

    private static boolean isOf(int group, int b) {
      switch (group) {
        case BLANKS:
          return b == ' ';
        case LETTERS:
          return b >= 'a' && b <= 'z';
        default:
          return b >= '0' && b <= '9';
      }
    }

    /** The first place from one on where no byte of a group stands. */
    private int endOf(int group, int from) {
      int place = from;
      while (place < size && isOf(group, byteAt(place))) {
        place++;
      }
      return place;
    }

    private int byteAt(int place) {
      return place >= 0 && place < size && place < MOST_BYTES ? bytes[place] : NONE;
    }

    private boolean isWord(String word) {
      if (token != WORD || end - start != word.length()) {
        return false;
      }
      for (int k = 0; k < word.length(); k++) {
        if (byteAt(start + k) != word.charAt(k)) {
          return false;
        }
      }
      return true;
    }

    /** The token's number, if it is one of two digits at most and within bounds; else NONE. */
    private int numberIn(int least, int most) {
      if (token != NUMBER || end - start > 2) {
        return NONE;
      }
      int number = 0;
      for (int k = start; k < end; k++) {
        number = 10 * number + byteAt(k) - '0';
      }
      return number < least || number > most ? NONE : number;
    }
  }

  /** Shelves, each with nothing, a row or a holding on it. */
  private static final class Shelves {
    /** A shelf's thing is the sort of its row, or this and the kind of its holding, or NONE. */
    private static final int HOLDING_BASE = 10;

    private final int[] thing = new int[MOST_SHELVES];
    private final int[] size = new int[MOST_SHELVES];
    private final long[][] elements = new long[MOST_SHELVES][MOST_ELEMENTS];
    private final int[] by = new int[MOST_SHELVES];

    Shelves() {
      for (int s = 0; s < MOST_SHELVES; s++) {
        thing[s] = NONE;
      }
    }

    boolean isShelf(int s) {
      return s >= 0 && s < MOST_SHELVES;
    }

    int thingOn(int s) {
      return isShelf(s) ? thing[s] : NONE;
    }

    boolean isBare(int s) {
      return thingOn(s) == NONE;
    }

    boolean isOfHolding(int s) {
      return thingOn(s) >= HOLDING_BASE;
    }

    boolean isOfRow(int s) {
      return !isBare(s) && !isOfHolding(s);
    }

    int fullCount() {
      int count = 0;
      for (int s = 0; s < MOST_SHELVES; s++) {
        if (!isBare(s)) {
          count++;
        }
      }
      return count;
    }

    /** Why a shelf can't be used for a row; 0: it can. */
    int rowFault(int s) {
      if (isOfHolding(s)) {
        return OTHER;
      }
      return isBare(s) ? NOTHING : 0;
    }

    /** Why a shelf can't be used for a holding; 0: it can. */
    int holdingFault(int s) {
      if (isOfRow(s)) {
        return OTHER;
      }
      return isBare(s) ? NOTHING : 0;
    }

    void putRow(int s, int sort, int n) {
      if (isShelf(s) && n >= 0 && n <= MOST_ELEMENTS) {
        thing[s] = sort;
        size[s] = n;
        Arrays.fill(elements[s], 0L);
      }
    }

    void putHolding(int s, int kind, int itsBy) {
      if (isShelf(s)) {
        thing[s] = HOLDING_BASE + kind;
        size[s] = 0;
        by[s] = itsBy;
      }
    }

    int kindOn(int s) {
      return isOfHolding(s) ? thing[s] - HOLDING_BASE : KIND_HOLDING;
    }

    int byOn(int s) {
      return isOfHolding(s) ? by[s] : 0;
    }

    int sizeOf(int s) {
      return isOfRow(s) ? size[s] : 0;
    }

    long elementAt(int s, int i) {
      return i >= 0 && i < sizeOf(s) ? elements[s][i] : 0;
    }

    void putElement(int s, int i, long v) {
      if (i >= 0 && i < sizeOf(s)) {
        elements[s][i] = lowestBits(thing[s], v);
      }
    }

    /** What a row of a sort keeps of a number. */
    private static long lowestBits(int sort, long v) {
      switch (sort) {
        case SORT_BYTES:
          return (byte) v;
        case SORT_SHORTS:
          return (short) v;
        case SORT_INTS:
          return (int) v;
        case SORT_LONGS:
          return v;
        default:
          return v != 0 ? 1 : 0;
      }
    }

    /** Elements of one row come to another of the same sort; the caller has looked at the places. */
    void copyElements(int p, int q, int i, int j, int n) {
      boolean isWithin = n >= 0 && i >= 0 && j >= 0 && i <= sizeOf(p) - n && j <= sizeOf(q) - n;
      if (isWithin && isOfRow(p) && isOfRow(q)) {
        System.arraycopy(elements[p], i, elements[q], j, n);
      }
    }
  }
}
