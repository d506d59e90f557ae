/** Each promise by itself: ordinary inputs, the edges that the document names, wrong inputs. */
public final class PromisesTest {

  private static final int MIN = Integer.MIN_VALUE;
  private static final int MAX = Integer.MAX_VALUE;
  private static final long BAD_GIFT = -1000000000002L;
  private static final long STUCK_GIFT = -1000000000005L;

  private static int wrong = 0;
  private static int checks = 0;

  private static void due(String what, long got, long want) {
    checks++;
    if (got != want) {
      wrong++;
      System.out.println(what + " answered " + got + ", due is " + want);
    }
  }

  private static OnlyWhatFits fed(OnlyWhatFits x, String text) {
    for (int from = 0; from < text.length(); from += 4) {
      int n = Math.min(4, text.length() - from);
      int v = 0;
      for (int k = 0; k < n; k++) {
        v = v << 8 | text.charAt(from + k);
      }
      x.feed(v, n);
    }
    return x;
  }

  private static int read(OnlyWhatFits x, String text) {
    return fed(x, text).village();
  }

  private static OnlyWhatFits village(String text) {
    OnlyWhatFits x = new OnlyWhatFits();
    if (read(x, text) < 0) {
      wrong++;
      System.out.println("the test's own village can't be read: " + text);
    }
    return x;
  }

  /** The place of the fault in a text, read by what there is. */
  private static void fault(OnlyWhatFits x, String text, int place) {
    int bad = x.status(12);
    due("village '" + text + "'", read(x, text), -20 - place);
    due("refusals after '" + text + "'", x.status(12), bad + 1);
    due("tape after '" + text + "'", x.status(7), 0);
  }

  private static OnlyWhatFits rowOf(OnlyWhatFits x, int s, int sort, long... numbers) {
    x.row(s, sort, numbers.length);
    for (int i = 0; i < numbers.length; i++) {
      x.set(s, i, numbers[i]);
    }
    return x;
  }

  private static void holders(String what, OnlyWhatFits x, int... ones) {
    for (int p = 0; p < ones.length; p++) {
      due(what + ": holder of " + p, x.partOf(p, 0), ones[p]);
    }
  }

  private static void seconds(String what, OnlyWhatFits x, int... ones) {
    for (int p = 0; p < ones.length; p++) {
      due(what + ": second of " + p, x.partOf(p, 1), ones[p]);
    }
  }

  public static void main(String[] args) {
    aNewObject();
    rows();
    copies();
    holdingsOnShelves();
    says();
    making();
    gives();
    theTape();
    villagesThatAreRead();
    faultsOfWords();
    faultsOfNumbers();
    whatThereIs();
    working();
    odds();
    turns();
    layWhole();
    layMixedAndDouble();
    laySureAndFew();
    wouldAndHead();
    best();
    bears();
    harmsLeastStolen();
    spareAndGift();
    neverWithAlone();
    keyIdleRoom();
    swapAndTrust();
    toldDays();
    daysInTruth();
    imageAndBack();
    refusalsAreCounted();
    System.out.println(checks + " checks, " + wrong + " wrong");
    if (wrong != 0) {
      System.exit(1);
    }
  }

  private static void aNewObject() {
    OnlyWhatFits x = new OnlyWhatFits();
    due("NONE", OnlyWhatFits.NONE, -1);
    for (int what = -1; what <= 18; what++) {
      boolean isCount = what >= 0 && what <= 9 || what >= 12 && what <= 16;
      due("new status " + what, x.status(what), what == 8 ? 1 : isCount ? 0 : -1);
    }
    due("new status MIN", x.status(MIN), -1);
    due("new status MAX", x.status(MAX), -1);
    for (int s = 0; s < 8; s++) {
      due("new shelf", x.holds(s), -1);
    }
    due("new seed", x.seed(1), 1);
  }

  private static void rows() {
    OnlyWhatFits x = new OnlyWhatFits();
    for (int sort = 0; sort < 5; sort++) {
      due("row", x.row(sort, sort, 3), 1);
      due("holds", x.holds(sort), sort);
      due("element at first", x.element(sort, 2), 0);
    }
    long v = 0x123456789abcdef8L;
    long[] kept = {-8, -8456, 0xffffffff9abcdef8L, v, 1};
    for (int sort = 0; sort < 5; sort++) {
      due("set", x.set(sort, 1, v), 1);
      due("element of sort " + sort, x.element(sort, 1), kept[sort]);
      due("element beside", x.element(sort, 0), 0);
    }
    x.set(4, 0, 256);
    due("boolean of 256", x.element(4, 0), 1);
    x.set(4, 0, 0);
    due("boolean of 0", x.element(4, 0), 0);
    x.set(0, 0, 256);
    due("byte of 256", x.element(0, 0), 0);
    x.set(1, 0, 32768);
    due("short of 32768", x.element(1, 0), -32768);
    due("longest row", x.row(7, 3, 40), 1);
    due("last of it", x.set(7, 39, Long.MIN_VALUE), 1);
    due("last of it", x.element(7, 39), Long.MIN_VALUE);
    due("a new row is 0", x.row(7, 3, 40), 1);
    due("last of the new", x.element(7, 39), 0);
    due("no elements", x.row(7, 2, 0), 1);
    due("none there", x.element(7, 0), 0);
    due("status 12", x.status(12), 0);
    for (int s : new int[] {-1, 8, MIN, MAX}) {
      due("row bad shelf", x.row(s, 0, 1), -2);
      due("set bad shelf", x.set(s, 0, 1), -2);
      due("element no shelf", x.element(s, 0), 0);
      due("holds no shelf", x.holds(s), -1);
    }
    due("row bad sort", x.row(0, -1, 1), -2);
    due("row bad sort", x.row(0, 5, 1), -2);
    due("row bad n", x.row(0, 0, -1), -2);
    due("row bad n", x.row(0, 0, 41), -2);
    due("row bad n", x.row(0, 0, MAX), -2);
    due("set bad i", x.set(3, 3, 1), -2);
    due("set bad i", x.set(3, -1, 1), -2);
    due("set bad i", x.set(3, MIN, 1), -2);
    due("refused, it is as it was", x.element(3, 1), v);
    due("set nothing", x.set(6, 0, 1), -4);
    x.holding(6, 1, 0);
    due("set other", x.set(6, 0, 1), -3);
    due("set other ahead of bad i", x.set(6, 99, 1), -3);
    due("element of a holding", x.element(6, 0), 0);
    due("element bad i", x.element(3, 3), 0);
    due("element bad i", x.element(3, -1), 0);
    due("bads", x.status(12), 16);
    due("others", x.status(13), 2);
    due("nothings", x.status(14), 1);
    due("shelves that hold something", x.status(9), 7);
  }

  private static void copies() {
    OnlyWhatFits x = rowOf(new OnlyWhatFits(), 0, 2, 1, 2, 3, 4, 5);
    rowOf(x, 1, 2, 10, 20, 30);
    due("copy", x.copy(0, 1, 3, 1, 2), 2);
    due("ahead", x.element(1, 0), 10);
    due("came", x.element(1, 1), 4);
    due("came", x.element(1, 2), 5);
    due("copy onto itself, behind", x.copy(0, 0, 0, 1, 4), 4);
    for (int i = 0; i < 5; i++) {
      due("as they were", x.element(0, i), i == 0 ? 1 : i);
    }
    due("copy onto itself, ahead", x.copy(0, 0, 1, 0, 4), 4);
    for (int i = 0; i < 5; i++) {
      due("as they were, ahead", x.element(0, i), i == 4 ? 4 : i + 1);
    }
    due("none", x.copy(0, 1, 5, 3, 0), 0);
    due("bad i", x.copy(0, 1, -1, 0, 1), -2);
    due("bad j", x.copy(0, 1, 0, -1, 1), -2);
    due("bad n", x.copy(0, 1, 0, 0, -1), -2);
    due("too many of the first", x.copy(1, 0, 0, 0, 4), -2);
    due("too many for the second", x.copy(0, 1, 0, 0, 4), -2);
    due("far", x.copy(0, 1, MAX, 0, 1), -2);
    due("far", x.copy(0, 1, 0, MAX, 1), -2);
    due("far", x.copy(0, 1, 1, 1, MAX), -2);
    due("far", x.copy(0, 1, MAX, MAX, MAX), -2);
    due("far", x.copy(0, 1, MIN, MIN, MIN), -2);
    rowOf(x, 2, 3, 7, 8, 9);
    due("two sorts", x.copy(0, 2, 0, 0, 1), -3);
    due("two sorts ahead of bad n", x.copy(0, 2, 0, 0, -1), -3);
    due("nothing", x.copy(0, 3, 0, 0, 1), -4);
    due("nothing", x.copy(3, 0, 0, 0, 1), -4);
    due("nothing ahead of bad n", x.copy(3, 0, 0, 0, -1), -4);
    x.holding(4, 2, 0);
    due("a holding", x.copy(0, 4, 0, 0, 1), -3);
    due("a holding", x.copy(4, 0, 0, 0, 1), -3);
    due("other ahead of nothing", x.copy(4, 3, 0, 0, 1), -3);
    due("other ahead of nothing", x.copy(3, 4, 0, 0, 1), -3);
    due("bad shelf ahead of other", x.copy(4, 8, 0, 0, 1), -2);
    due("bad shelf", x.copy(-1, 0, 0, 0, 1), -2);
    due("bads", x.status(12), 12);
    due("others", x.status(13), 6);
    due("nothings", x.status(14), 3);
  }

  private static void holdingsOnShelves() {
    OnlyWhatFits x = new OnlyWhatFits();
    for (int kind = 1; kind <= 5; kind++) {
      due("holding", x.holding(kind, kind, 99), 1);
      due("holds", x.holds(kind), 10 + kind);
    }
    due("bad kind", x.holding(0, 0, 0), -2);
    due("bad kind", x.holding(0, 6, 0), -2);
    due("bad a", x.holding(0, 1, -1), -2);
    due("bad a", x.holding(0, 1, 100), -2);
    due("bad shelf", x.holding(8, 1, 0), -2);
    due("bad shelf", x.holding(-1, 1, 0), -2);
    due("nothing there", x.holds(0), -1);
    due("bads", x.status(12), 6);
    due("full", x.status(9), 5);
    due("a row instead", x.row(1, 3, 2), 1);
    due("holds", x.holds(1), 3);
    due("a holding instead", x.holding(1, 4, 0), 1);
    due("holds", x.holds(1), 14);
    due("full", x.status(9), 5);
  }

  private static void says() {
    OnlyWhatFits x = village("one 2;one 1;one 1;part;part;part");
    for (int kind = 1; kind <= 5; kind++) {
      x.holding(kind, kind, kind == 5 ? 1 : 7);
    }
    due("whole", x.says(1, 1), 3);
    due("mixed", x.says(2, 2), 3);
    due("double as double", x.says(3, 3), 1);
    due("double as mixed", x.says(3, 2), 3);
    due("sure", x.says(4, 4), 3);
    due("sure as mixed", x.says(4, 2), 3);
    due("few", x.says(5, 5), 2);
    due("few as whole, by itself", x.says(5, 1), 2);
    boolean[][] under = {
      {true, true, false, false, false, false}, {true, false, true, false, false, false},
      {true, false, true, true, false, false}, {true, false, true, false, true, false},
      {true, true, false, false, false, true}};
    for (int kind = 1; kind <= 5; kind++) {
      due("as holding", x.says(kind, 0), kind == 5 ? 1 : 7);
      for (int as = 0; as <= 5; as++) {
        due("whether " + kind + " is " + as, x.says(kind, as) != -3 ? 1 : 0, under[kind - 1][as] ? 1 : 0);
      }
      due("bad kind", x.says(kind, 6), -2);
      due("bad kind", x.says(kind, -1), -2);
    }
    due("nothing", x.says(0, 1), -4);
    due("bad kind ahead of nothing", x.says(0, 6), -2);
    due("bad shelf", x.says(8, 1), -2);
    x.row(0, 0, 1);
    due("a row", x.says(0, 0), -3);
    holders("nothing is laid by it", x, -1, -1, -1);
  }

  private static void making() {
    OnlyWhatFits x = new OnlyWhatFits();
    due("no part to need", x.machine(1, 1), -2);
    for (int p = 0; p < 12; p++) {
      due("part", x.part(), p);
    }
    due("part 13", x.part(), -6);
    due("no needs", x.machine(0, 1), -2);
    due("needs beyond", x.machine(4096, 1), -2);
    due("needs below", x.machine(-1, 1), -2);
    due("needs MIN", x.machine(MIN, 1), -2);
    due("no worth", x.machine(1, 0), -2);
    due("too worthy", x.machine(1, 100), -2);
    due("below", x.machine(1, -1), -2);
    for (int m = 0; m < 6; m++) {
      due("machine", x.machine(m == 0 ? 4095 : 1 << m, m == 0 ? 99 : m), m);
    }
    due("bad ahead of full", x.machine(0, 1), -2);
    due("machine 7", x.machine(1, 1), -6);
    due("needs", x.machineOf(0, 0), 4095);
    due("worth", x.machineOf(0, 1), 99);
    due("worth", x.machineOf(1, 1), 1);
    due("bad hand", x.one(-1, 0), -2);
    due("bad hand", x.one(10, 0), -2);
    due("bad away", x.one(0, -1), -2);
    due("bad away", x.one(0, 11), -2);
    for (int o = 0; o < 8; o++) {
      due("one", x.one(o == 0 ? 9 : 0, o == 0 ? 10 : 0), o);
    }
    due("bad ahead of full", x.one(10, 0), -2);
    due("one 9", x.one(0, 0), -6);
    due("hand", x.oneOf(0, 0), 9);
    due("away", x.oneOf(0, 1), 10);
    due("parts", x.status(0), 12);
    due("machines", x.status(1), 6);
    due("people", x.status(2), 8);
    due("fulls", x.status(16), 3);
    due("bads", x.status(12), 14);
    due("away", x.away(0, 3), 10);
    due("away again", x.away(0, 10), 3);
    due("away of nobody", x.away(8, 3), -2);
    due("away of nobody", x.away(-1, 3), -2);
    due("away bad", x.away(0, 11), -2);
    due("away bad", x.away(0, -1), -2);
    due("away as it was", x.oneOf(0, 1), 10);
    due("cross", x.cross(1, true), 1);
    due("cross again", x.cross(1, true), 0);
    due("cross is", x.oneOf(1, 2), 1);
    due("cross ones", x.status(3), 1);
    due("not cross", x.cross(1, false), 1);
    due("not cross again", x.cross(1, false), 0);
    due("cross nobody", x.cross(8, true), -2);
    due("cross nobody", x.cross(-1, true), -2);
    due("cross ones", x.status(3), 0);
  }

  private static void gives() {
    OnlyWhatFits x = village("one 2;one 1;part;part;part");
    due("give", x.give(0, 0, false), -1);
    due("both pieces of one", x.give(0, 0, true), -1);
    due("pieces", x.oneOf(0, 3), 2);
    due("full", x.give(1, 0, false), -5);
    due("full for a second", x.give(1, 0, true), -5);
    due("without that piece", x.give(0, 0, false), 0);
    due("without that second piece", x.give(0, 0, true), 0);
    due("to another", x.give(0, 1, true), 0);
    due("pieces", x.oneOf(0, 3), 1);
    due("the other is full", x.give(1, 1, false), -5);
    due("they hold the second, not the first", x.give(0, 1, false), -5);
    due("holder", x.partOf(0, 0), 0);
    due("second", x.partOf(0, 1), 1);
    due("to nobody", x.give(0, -1, true), 1);
    due("to nobody again", x.give(0, -1, true), -1);
    due("second", x.partOf(0, 1), -1);
    due("bad part", x.give(3, 0, false), -2);
    due("bad part", x.give(-1, 0, false), -2);
    due("bad one", x.give(0, 2, false), -2);
    due("bad one", x.give(0, -2, false), -2);
    due("bad one", x.give(0, MIN, true), -2);
    due("stuck ones", x.status(15), 4);
    due("bads", x.status(12), 5);
    due("pieces held", x.status(4), 1);
    x.cross(1, true);
    due("a cross one may hold", x.give(2, 1, false), -1);
    due("pieces held", x.status(4), 2);
  }

  private static void theTape() {
    OnlyWhatFits x = new OnlyWhatFits();
    due("bad n", x.feed(1, 0), -2);
    due("bad n", x.feed(1, 5), -2);
    due("bad n", x.feed(1, -1), -2);
    due("nothing to wipe", x.wipe(), 0);
    due("the highest first", x.feed('p' << 24 | 'a' << 16 | 'r' << 8 | 't', 4), 4);
    due("one part", x.village(), 1);
    due("only the lowest", x.feed('x' << 24 | 'o' << 16 | 'n' << 8 | 'e', 3), 3);
    due("n 2", x.feed(' ' << 8 | '9', 2), 5);
    due("n 1", x.feed('x' << 8 | ' ', 1), 6);
    due("size", x.status(7), 6);
    due("one of the people", x.village(), 1);
    due("hand", x.oneOf(0, 0), 9);
    for (int k = 1; k <= 62; k++) {
      due("feed", x.feed(0x20202020, 4), 4 * k);
    }
    due("no room for 4", x.feed(0x20202020, 4), -6);
    due("no room for 3", x.feed(0x20202020, 3), -6);
    due("bad ahead of full", x.feed(0, 5), -2);
    due("room for 2", x.feed(0x2020, 2), 250);
    due("no room for 1", x.feed(32, 1), -6);
    due("fulls", x.status(16), 3);
    due("blanks alone end too early", x.village(), -270);
    x.feed(-1, 4);
    due("wipe", x.wipe(), 4);
    due("size", x.status(7), 0);
    due("empty", x.village(), -20);
  }

  private static void villagesThatAreRead() {
    OnlyWhatFits x = village("one 2 away 3 cross;one9;one 0 cross;one 1 away 10");
    due("hand", x.oneOf(0, 0), 2);
    due("away", x.oneOf(0, 1), 3);
    due("cross", x.oneOf(0, 2), 1);
    due("hand", x.oneOf(1, 0), 9);
    due("away is 0 if not told", x.oneOf(1, 1), 0);
    due("not cross", x.oneOf(1, 2), 0);
    due("cross", x.oneOf(2, 2), 1);
    due("away", x.oneOf(3, 1), 10);
    due("no blanks needed", read(x, "part by1second 0;part;part second 03 ; machine99need 0and2 and 1 and 0"), 4);
    holders("read", x, 1, -1, -1);
    seconds("read", x, 0, -1, 3);
    due("needs", x.machineOf(0, 0), 7);
    due("worth", x.machineOf(0, 1), 99);
    due("blanks", read(x, "  gives   1  1 ;gives 1 1;gives 0 0  "), 3);
    holders("given", x, 0, 1, -1);
    due("goes on with what there is", read(x, "machine 1 need 2;part by 1"), 2);
    due("parts", x.status(0), 4);
    due("holder of the new one", x.partOf(3, 0), 1);
    due("both pieces of one", read(x, "part by 1 second 1"), 1);
    due("refused", x.status(12), 0);
  }

  private static void faultsOfWords() {
    OnlyWhatFits x = village("one 9;part");
    fault(x, "", 0);
    fault(x, "   ", 3);
    fault(x, ";", 0);
    fault(x, "part;", 5);
    fault(x, "part; ", 6);
    fault(x, "part;;part", 5);
    fault(x, "part part", 5);
    fault(x, "partby 0", 0);
    fault(x, " parts", 1);
    fault(x, "par", 0);
    fault(x, "Part", 0);
    fault(x, "part second 0 by 0", 14);
    fault(x, "part by 0 by 0", 10);
    fault(x, "part by", 7);
    fault(x, "part by  ", 9);
    fault(x, "part by ;", 8);
    fault(x, "part by second", 8);
    fault(x, "part second", 11);
    fault(x, "7", 0);
    fault(x, "one", 3);
    fault(x, "one away", 4);
    fault(x, "one 1 away", 10);
    fault(x, "one 1 away cross", 11);
    fault(x, "one 1 cross away 1", 12);
    fault(x, "one 1 1", 6);
    fault(x, "one 1 cross cross", 12);
    fault(x, "machine", 7);
    fault(x, "machine need", 8);
    fault(x, "machine 1", 9);
    fault(x, "machine 1 0", 10);
    fault(x, "machine 1 need", 14);
    fault(x, "machine 1 need 0 0", 17);
    fault(x, "machine 1 need 0 and", 20);
    fault(x, "machine 1 need 0 and;", 20);
    fault(x, "machine 1 need and", 15);
    fault(x, "gives", 5);
    fault(x, "gives 0", 7);
    fault(x, "gives 0;", 7);
    fault(x, "gives 0 0 0", 10);
    fault(x, "part-", 4);
    fault(x, "part \n", 5);
    fault(x, "part \u00e9", 5);
    fault(x, "part by $", 8);
    fault(x, "part by 5 $", 8);
    fault(x, "@part", 0);
    due("parts", x.status(0), 1);
    due("people", x.status(2), 1);
    due("machines", x.status(1), 0);
    due("held", x.status(4), 0);
  }

  private static void faultsOfNumbers() {
    OnlyWhatFits x = village("one 1;part by 0;part");
    fault(x, "one 10", 4);
    fault(x, "one 001", 4);
    fault(x, "one 1 away 11", 11);
    fault(x, "machine 0 need 0", 8);
    fault(x, "machine 00 need 0", 8);
    fault(x, "machine 100 need 0", 8);
    fault(x, "machine 1 need 2", 15);
    fault(x, "machine 1 need 0 and 12", 21);
    fault(x, "machine 1 need 99999999999", 15);
    fault(x, "gives 2 0", 6);
    fault(x, "gives 1 1", 8);
    fault(x, "gives 1 0", 8);
    fault(x, "gives 1 000", 8);
    fault(x, "part by 0", 8);
    fault(x, "part by 1", 8);
    fault(x, "part second 0", 12);
    fault(x, "one 1;part by 1 second 1", 23);
    fault(x, "part by 1;one 1", 8);
    fault(x, "machine 1 need 2;part", 15);
    due("all or nothing", x.status(2), 1);
    due("one's own piece", read(x, "gives 0 0"), 1);
    due("the one there then", read(x, "one 1;part by 1;machine 07 need 02;gives 0 0"), 4);
    due("worth", x.machineOf(0, 1), 7);
    OnlyWhatFits full = village("part;part;part;part;part;part;part;part;part;part;part");
    fault(full, "part; part", 6);
    due("parts", full.status(0), 11);
    due("the last", read(full, "part"), 1);
    fault(full, "part by 7", 0);
    due("machines", read(full, "machine 1 need 11;machine 1 need 1;machine 1 need 1;machine 1 need 1;machine 1 need 1"), 5);
    fault(full, "machine 1 need 1;machine 100 need 1", 17);
    due("the last machine", read(full, "machine 2 need 1"), 1);
    fault(full, "machine 1 need 1", 0);
    due("people", read(full, "one 1;one 1;one 1;one 1;one 1;one 1;one 1"), 7);
    fault(full, "one 1;one 10", 6);
    due("the last one", read(full, "one 1"), 1);
    fault(full, "one 10", 0);
    due("gives 11 7", read(full, "gives 11 7"), 1);
    due("holder", full.partOf(11, 0), 7);
  }

  private static void whatThereIs() {
    OnlyWhatFits x = village("one 3 away 4 cross;part by 0 second 0;part second 0;machine 8 need 0 and 1");
    due("holder", x.partOf(0, 0), 0);
    due("second", x.partOf(0, 1), 0);
    due("no holder", x.partOf(1, 0), -1);
    due("needs", x.machineOf(0, 0), 3);
    due("worth", x.machineOf(0, 1), 8);
    int[] of = {3, 4, 1, 3, 0};
    for (int what = 0; what < 5; what++) {
      due("one of " + what, x.oneOf(0, what), of[what]);
    }
    due("held", x.status(4), 3);
    due("none refused", x.status(12), 0);
    for (int bad : new int[] {-1, MIN, MAX}) {
      due("part", x.partOf(bad, 0), -2);
      due("part", x.partOf(0, bad), -2);
      due("machine", x.machineOf(bad, 0), -2);
      due("machine", x.machineOf(0, bad), -2);
      due("one", x.oneOf(bad, 0), -2);
      due("one", x.oneOf(0, bad), -2);
    }
    due("part", x.partOf(2, 0), -2);
    due("part", x.partOf(0, 2), -2);
    due("machine", x.machineOf(1, 0), -2);
    due("machine", x.machineOf(0, 2), -2);
    due("one", x.oneOf(1, 0), -2);
    due("one", x.oneOf(0, 5), -2);
    due("bads", x.status(12), 24);
  }

  private static void working() {
    OnlyWhatFits x = village("one 9;one 9;one 9;part by 0 second 1;part by 1;part by 2 second 2;part;"
        + "machine 1 need 0 and 1;machine 2 need 0 and 2;machine 3 need 2;machine 4 need 3");
    due("nobody has", x.has(0), 0);
    due("0 has", x.has(1), 1);
    due("1 has", x.has(2), 3);
    due("2 has", x.has(4), 4);
    due("0 and 2 have", x.has(5), 5);
    due("all have", x.has(7), 7);
    due("beyond", x.has(8), -2);
    due("below", x.has(-1), -2);
    due("works", x.works(0, 2), 1);
    due("works not", x.works(0, 5), 0);
    due("works not", x.works(3, 7), 0);
    due("nobody works", x.works(2, 0), 0);
    due("bad machine", x.works(4, 0), -2);
    due("bad people", x.works(0, 8), -2);
    due("bad machine", x.works(-1, 0), -2);
    due("both need both pieces", x.both(0, 1, 7), 1);
    due("one piece of 0 is not there", x.both(0, 1, 6), 0);
    due("each alone is worked", x.works(0, 6) + x.works(1, 6), 2);
    due("both pieces are of one", x.both(1, 2, 5), 1);
    due("one of the two is not worked", x.both(0, 3, 7), 0);
    due("unshared parts need no second", x.both(0, 2, 6), 1);
    due("the same", x.both(1, 1, 7), -2);
    due("bad other", x.both(1, 4, 7), -2);
    due("bad people", x.both(0, 1, 8), -2);
    due("bad machine", x.both(-1, 1, 7), -2);
    x.cross(1, true);
    due("cross ones are in sets", x.works(0, 2), 1);
    due("cross ones have", x.has(2), 3);
    due("cross ones work at once", x.both(0, 1, 7), 1);
  }

  private static void odds() {
    OnlyWhatFits none = new OnlyWhatFits();
    due("no day", none.day(), 0);
    due("no machine", none.odds(0), -2);
    none.part();
    none.machine(1, 9);
    due("nobody", none.odds(0), 0);
    due("nobody's day", none.day(), 0);
    OnlyWhatFits x = village("one 9 away 2;one 9 away 5;one 9 away 10;part by 0;part by 0 second 1;part by 2;"
        + "machine 10 need 0;machine 3 need 1;machine 50 need 2;machine 7 need 1 and 0");
    due("8 of 10", x.odds(0), 800);
    due("one of two", x.odds(1), 900);
    due("never there", x.odds(2), 0);
    due("both parts of 0", x.odds(3), 800);
    due("day", x.day(), 8000 + 2700 + 5600);
    due("at once, nothing shared", x.atOnce(0, 1), 800);
    due("at once, 0 and 1 shared", x.atOnce(0, 3), 0);
    due("at once, 1 shared", x.atOnce(1, 3), 400);
    due("at once the same", x.atOnce(1, 1), -2);
    due("at once bad", x.atOnce(0, 4), -2);
    due("at once bad", x.atOnce(-1, 0), -2);
    due("bad", x.odds(4), -2);
    due("bad", x.odds(-1), -2);
    x.cross(0, true);
    due("cross", x.odds(0), 0);
    due("by the second", x.odds(1), 500);
    due("at once without cross ones", x.atOnce(1, 3), 0);
    due("day", x.day(), 1500);
    x.away(0, 0);
    due("cross whatever away is", x.odds(0), 0);
    OnlyWhatFits wide = village("one 9;one 9;one 9;one 9;one 9;one 9;one 9;one 9;part by 7;machine 99 need 0");
    for (int m = 1; m < 6; m++) {
      wide.machine(1, 99);
    }
    due("10 to the 8", wide.odds(5), 100000000L);
    due("the greatest day", wide.day(), 59400000000L);
  }

  private static void turns() {
    OnlyWhatFits none = new OnlyWhatFits();
    due("no first", none.first(), -5);
    due("no key", none.key(), -5);
    due("idle", none.idle(), 0);
    OnlyWhatFits x = village("one 9;one 9;one 9;one 9;part by 0 second 1;part by 2;machine 2 need 0 and 1;machine 3 need 0");
    due("power of 0", x.power(0, 0), 4);
    due("power of 1", x.power(0, 1), 4);
    due("power of 2", x.power(0, 2), 16);
    due("power of 3", x.power(0, 3), 0);
    due("power of 0", x.power(1, 0), 12);
    due("power of 2", x.power(1, 2), 0);
    due("first: 8 and 36 are more than 32", x.first(), 0);
    due("idle", x.idle(), 8);
    x.cross(0, true);
    due("cross ones come, too", x.power(1, 0), 12);
    due("bad machine", x.power(2, 0), -2);
    due("bad one", x.power(0, 4), -2);
    due("bad one", x.power(0, -1), -2);
    due("bad machine", x.power(-1, 0), -2);
    due("2 has a machine more", read(x, "machine 1 need 1"), 1);
    due("first: 44 and 44 and 56", x.first(), 2);
    due("idle", x.idle(), 8);
    OnlyWhatFits wide = village("one 9;one 9;one 9;one 9;one 9;one 9;one 9;one 9;part by 7;machine 1 need 0");
    due("all orders", wide.power(0, 7), 40320);
    due("first", wide.first(), 7);
    due("idle", wide.idle(), 127);
    OnlyWhatFits still = village("one 9;one 9;part;machine 9 need 0");
    due("no turns: the first", still.first(), 0);
    due("no turns: idle", still.idle(), 3);
  }

  private static void layWhole() {
    OnlyWhatFits x = village("one 2;one 3;one 2;part;part;part;part;part;part;part;"
        + "machine 5 need 5 and 1;machine 9 need 3 and 2 and 6;machine 9 need 2 and 4");
    x.holding(0, 1, 50);
    x.give(0, 2, true);
    // worth 9 first: 2, 3 to 0; 6 to 1. Then 4: 0 is full, so to 1. Then 1, 5: to the first with room, then on.
    due("all", x.lay(0), 7);
    holders("whole", x, 2, 1, 0, 0, 1, 2, 1);
    seconds("whole takes seconds away", x, -1, -1, -1, -1, -1, -1, -1);
    OnlyWhatFits y = village("one 2;one 2;one 1;part;part;part;part;machine 8 need 0 and 1;machine 7 need 3 and 0");
    y.holding(0, 1, 0);
    due("all", y.lay(0), 4);
    holders("whole goes on", y, 0, 0, 1, 1);
    OnlyWhatFits z = village("one 1;one 2;one 1;part;part;part;machine 8 need 0 and 1;machine 7 need 1 and 2");
    z.holding(0, 1, 0);
    z.lay(0);
    // part 2 goes to 1, to whom part 1 of the same machine was given for another
    holders("given by this, ahead", z, 0, 1, 1);
    OnlyWhatFits w = village("one 1;one 3;one 3;part;part;part;part;machine 8 need 0 and 1;machine 7 need 2");
    w.give(2, 2, false);
    w.holding(0, 1, 0);
    w.lay(0);
    holders("what was held ahead doesn't count", w, 0, 1, 1, 1);
    OnlyWhatFits few = village("one 1;one 0;part;part;machine 1 need 1");
    few.give(0, 0, false);
    few.holding(0, 1, 0);
    due("room for one", few.lay(0), 1);
    holders("machines first", few, -1, 0);
    due("bad", few.lay(8), -2);
    due("bad", few.lay(-1), -2);
    due("nothing", few.lay(1), -4);
    few.row(1, 0, 0);
    due("a row", few.lay(1), -3);
    OnlyWhatFits nobody = village("part;machine 1 need 0");
    for (int kind = 1; kind <= 5; kind++) {
      nobody.holding(kind, kind, 3);
      due("nobody", nobody.lay(kind), 0);
    }
    OnlyWhatFits again = village("one 0;one 1;one 4;part;part;part;part;machine 3 need 0;machine 6 need 1 and 3");
    again.holding(0, 1, 0);
    again.lay(0);
    holders("again", again, 2, 1, 2, 2);
  }

  private static void layMixedAndDouble() {
    OnlyWhatFits x = village("one 2;one 1;one 3 cross;part;part;part;part;part;part;part");
    x.holding(0, 2, 0);
    x.holding(1, 2, 7);
    due("six", x.lay(0), 6);
    holders("mixed", x, 0, 1, 2, 0, 2, 2, -1);
    due("from 7 modulo 3 on", x.lay(1), 6);
    holders("mixed from 1", x, 1, 2, 0, 2, 0, 2, -1);
    OnlyWhatFits y = village("one 2;one 3;one 4;part;part;part;part");
    y.holding(0, 3, 1);
    due("says seconds", y.says(0, 3), 4);
    due("four", y.lay(0), 4);
    holders("double", y, 1, 2, 0, 1);
    // from 2 on; part 1 is 2's, so 0; part 2 is 0's, who is full anyway; then 2, then 2 again
    seconds("double", y, 2, 0, 1, 2);
    OnlyWhatFits z = village("one 1;one 5;part;part;part");
    z.holding(0, 3, 0);
    z.lay(0);
    holders("double", z, 0, 1, 1);
    seconds("none for parts of the only one with room", z, 1, -1, -1);
    due("says", z.says(0, 3), 1);
    OnlyWhatFits w = village("one 3;one 3;one 3;part;part;part");
    w.holding(0, 3, 0);
    w.lay(0);
    holders("double", w, 0, 1, 2);
    seconds("going on, passing over, going on from there", w, 1, 2, 0);
    OnlyWhatFits v = village("one 4;one 4;part;part;part");
    v.holding(0, 3, 1);
    v.lay(0);
    holders("double", v, 1, 0, 1);
    seconds("going on where it ended", v, 0, 1, 0);
    v.holding(1, 2, 99);
    v.lay(1);
    holders("by 99 of 2", v, 1, 0, 1);
    seconds("mixed tells no seconds", v, -1, -1, -1);
  }

  private static void laySureAndFew() {
    OnlyWhatFits x = village("one 1 away 3;one 2 away 1 cross;one 2 away 1;part;part;part;part;part;part");
    x.holding(0, 4, 5);
    due("five", x.lay(0), 5);
    holders("sure", x, 1, 1, 2, 2, 0, -1);
    OnlyWhatFits never = village("one 1 away 10;part");
    never.holding(0, 4, 0);
    due("also to one always away", never.lay(0), 1);
    OnlyWhatFits y = village("one 1;one 2;one 9;part;part;part;part;machine 9 need 3 and 1");
    y.holding(0, 5, 2);
    due("among two", y.lay(0), 3);
    holders("few", y, 1, 0, -1, 1);
    y.holding(0, 5, 0);
    due("all, if 0", y.lay(0), 4);
    holders("few of all", y, 1, 0, 2, 1);
    y.holding(0, 5, 1);
    due("among one", y.lay(0), 1);
    holders("few of one", y, -1, 0, -1, -1);
    y.holding(0, 5, 99);
    due("more than there are", y.lay(0), 4);
  }

  private static void wouldAndHead() {
    OnlyWhatFits x = village("one 1 away 5;one 1 away 2;part;part;machine 4 need 0;machine 1 need 1");
    due("no head", x.head(), -5);
    x.row(0, 0, 1);
    due("no head among rows", x.head(), -5);
    x.holding(3, 2, 0);
    x.holding(5, 2, 1);
    x.holding(6, 4, 0);
    due("would", x.would(3), 200 + 80);
    due("would", x.would(5), 320 + 50);
    due("would", x.would(6), 370);
    due("head", x.head(), 5);
    due("nothing is laid", x.status(4), 0);
    due("day", x.day(), 0);
    due("bad", x.would(8), -2);
    due("bad", x.would(MIN), -2);
    due("other", x.would(0), -3);
    due("nothing", x.would(1), -4);
    x.cross(0, true);
    x.cross(1, true);
    due("all are 0: the first", x.head(), 3);
  }

  private static void best() {
    OnlyWhatFits x = village("one 1 away 5;one 2 away 2;one 1;part;part;part;machine 4 need 0 and 1;machine 9 need 2");
    due("best day: 9 by 2, 4 by 1", x.bestDay(), 9000 + 3200);
    due("best 0", x.best(0), 1);
    due("best 1", x.best(1), 1);
    due("best 2", x.best(2), 2);
    due("nothing is laid", x.status(4), 0);
    due("none refused", x.status(12) + x.status(15), 0);
    due("bad", x.best(3), -2);
    due("bad", x.best(-1), -2);
    OnlyWhatFits idle = village("one 9;one 9;part;part;machine 1 need 1");
    due("none ahead of 0", idle.best(0), -1);
    due("the first of several", idle.best(1), 0);
    due("NONE isn't refused", idle.status(12) + idle.status(15), 0);
    OnlyWhatFits seconds = village("one 9 away 5;one 9 away 5;part by 0 second 1;machine 1 need 0");
    due("a day with seconds", seconds.day(), 75);
    due("best is without seconds", seconds.bestDay(), 50);
    OnlyWhatFits cross = village("one 9 cross;one 1 away 9;part;machine 1 need 0");
    due("a cross one doesn't come", cross.best(0), 1);
    due("best day", cross.bestDay(), 10);
    OnlyWhatFits big = village("one 2 away 1;one 2 away 2;one 1 away 3;one 1;part;part;part;part;part;part;"
        + "machine 9 need 0 and 1;machine 8 need 1 and 2;machine 7 need 3;machine 6 need 3 and 4 and 5");
    due("big", big.bestDay() >= 0 ? 1 : 0, 1);
    due("five people", read(big, "one 1"), 1);
    due("stuck", big.best(0), -5);
    due("stuck", big.bestDay(), -5);
    due("bad ahead of stuck", big.best(6), -2);
    OnlyWhatFits parts = village("one 9;part;part;part;part;part;part;part");
    due("seven parts", parts.best(6), -5);
    due("seven parts", parts.bestDay(), -5);
    due("stucks", parts.status(15), 2);
    due("nothing at all", new OnlyWhatFits().bestDay(), 0);
    OnlyWhatFits full = village("one 0;part;machine 5 need 0");
    due("no room", full.best(0), -1);
    due("no room", full.bestDay(), 0);
  }

  private static void bears() {
    OnlyWhatFits x = village("one 9;one 9;one 9;part by 0 second 1;part by 2 second 0;part;part by 1 second 1;"
        + "machine 1 need 0;machine 1 need 0 and 1;machine 1 need 2;machine 1 need 3");
    due("any one may be away", x.bears(0), 1);
    due("any one may be away", x.bears(1), 1);
    due("never", x.bears(2), -5);
    due("both pieces of one", x.bears(3), 0);
    due("safe 0", x.safe(0), 11);
    due("safe 1", x.safe(1), 3);
    due("safe 2", x.safe(2), 0);
    due("safe 8", x.safe(8), 0);
    due("safe 9", x.safe(9), -2);
    due("safe -1", x.safe(-1), -2);
    x.cross(0, true);
    due("the cross one never comes", x.bears(0), 0);
    due("the cross one never comes", x.bears(1), 0);
    x.cross(1, true);
    due("nobody has 0", x.bears(0), -5);
    due("safe 0", x.safe(0), 0);
    due("bad", x.bears(4), -2);
    due("bad", x.bears(-1), -2);
    due("stucks", x.status(15), 2);
  }

  private static void harmsLeastStolen() {
    OnlyWhatFits none = new OnlyWhatFits();
    due("no one", none.harms(), -5);
    due("least of none", none.least(), 0);
    due("stolen of none", none.stolen(), 0);
    OnlyWhatFits x = village("one 9;one 9 away 5;one 9;part by 0 second 1;part by 1;part by 2;"
        + "machine 2 need 0;machine 3 need 1;machine 3 need 2");
    due("without 2 it is 3500; without 1, 5000; without 0, 5500", x.harms(), 2);
    x.cross(2, true);
    due("2 is cross already: 0 leaves 2500, 1 leaves 2000", x.harms(), 1);
    x.cross(0, true);
    x.cross(1, true);
    due("all are cross", x.harms(), -5);
    due("least counts cross ones as coming", x.least(), 7);
    due("stolen", x.stolen(), 7);
    x.cross(0, false);
    due("only 0 is left", x.harms(), 0);
    OnlyWhatFits y = village("one 9;one 9;one 9;part by 0 second 2;part by 1;part;part by 2;"
        + "machine 1 need 0 and 1;machine 1 need 1 and 3;machine 9 need 2;machine 1 need 1");
    due("least", y.least(), 2);
    due("stolen", y.stolen(), 2);
    OnlyWhatFits z = village("one 9;one 9;part by 1;part by 0;machine 1 need 0 and 1");
    due("of several the least", z.least(), 1);
    due("of several the least", z.stolen(), 1);
    z.give(0, 0, true);
    due("0 has all", z.least(), 1);
    due("part 0 gone with both pieces", z.stolen(), 1);
    z.give(1, 1, true);
    due("both have all", z.least(), 3);
    OnlyWhatFits still = village("one 9;part;machine 1 need 0");
    due("none works: none", still.least(), 0);
    due("none works: none", still.stolen(), 0);
    due("days alike: the first", village("one 9;one 9").harms(), 0);
  }

  private static void spareAndGift() {
    OnlyWhatFits x = village("one 1 away 5;one 2 away 2;one 1 away 1;part by 0;part by 1;machine 2 need 0;machine 1 need 1");
    due("spare: part 0 to 2", x.spare(), 2);
    x.give(0, 2, true);
    due("spare: nobody else but its holder has room", x.spare(), -1);
    x.give(0, 1, true);
    due("spare: part 1 to 2", x.spare(), 12);
    due("NONE isn't refused", x.status(12) + x.status(15), 0);
    due("nothing is given", x.partOf(1, 1), -1);
    due("a better one away", x.away(0, 10) + x.away(2, 10), 6);
    due("spare by what is so now: nobody with room comes", x.spare(), -1);
    due("1 has no room until part 0's second is gone", x.give(0, 2, true), 1);
    due("spare: part 1 is 1's own", x.spare(), -1);
    OnlyWhatFits cross = village("one 1;one 1 cross;part by 0;machine 1 need 0");
    due("no more than now", cross.spare(), -1);
    due("none at all", new OnlyWhatFits().spare(), -1);
    OnlyWhatFits bare = village("one 1;one 1;part;part;machine 1 need 0;machine 1 need 1");
    due("also without a holder; of several the least", bare.spare(), 0);
    OnlyWhatFits y = village("one 1 away 5;one 1 away 2;part by 0 second 1;part;machine 3 need 0;machine 1 need 1");
    due("gift of its own", y.gift(0, 0), 0);
    due("full", y.gift(1, 0), STUCK_GIFT);
    due("full: the second piece is another", y.gift(0, 1), STUCK_GIFT);
    y.give(0, -1, true);
    due("to a better one", y.gift(0, 1), 3 * (80 - 50));
    due("a new one", y.gift(1, 1), 80);
    y.swap(0, 1);
    y.give(0, 1, false);
    y.give(1, -1, false);
    due("to a worse one", y.gift(0, 0), 3 * (50 - 80));
    due("holder", y.partOf(0, 0), 1);
    due("bad part", y.gift(2, 0), BAD_GIFT);
    due("bad part", y.gift(-1, 0), BAD_GIFT);
    due("bad one", y.gift(0, 2), BAD_GIFT);
    due("not to none", y.gift(0, -1), BAD_GIFT);
    due("bads", y.status(12), 4);
    due("stucks", y.status(15), 2);
  }

  private static void neverWithAlone() {
    OnlyWhatFits x = village("one 9;one 9;one 9;part by 2;part second 1;part;part by 0 second 2;part by 1 second 0;"
        + "machine 1 need 0 and 1;machine 1 need 2;machine 1 need 3;machine 1 need 3 and 4;machine 1 need 4 and 2");
    due("parts without a piece", x.never(false), 4);
    due("machines never worked", x.never(true), 18);
    due("with", x.with(0), 6);
    due("none does", x.with(1), -5);
    due("fewest, then as bits", x.with(2), 1);
    due("alone is fewer", x.with(3), 1);
    due("bad", x.with(5), -2);
    due("bad", x.with(-1), -2);
    due("alone 0", x.alone(0), 12);
    due("alone 1", x.alone(1), 0);
    due("alone 2", x.alone(2), 4);
    x.cross(0, true);
    due("alone, cross or not", x.alone(0), 12);
    due("with, cross or not", x.with(3), 1);
    due("never, cross or not", x.never(true), 18);
    due("bad", x.alone(3), -2);
    due("bad", x.alone(-1), -2);
    due("nothing", new OnlyWhatFits().never(false), 0);
    due("nothing", new OnlyWhatFits().never(true), 0);
    OnlyWhatFits y = village("one 9;one 9;one 9;part by 2 second 1;part by 0 second 2;machine 1 need 0 and 1");
    due("one alone though its bits are more than 3", y.with(0), 4);
  }

  private static void keyIdleRoom() {
    OnlyWhatFits x = village("one 3;one 2;part by 0;part by 1 second 0;part;machine 1 need 0;machine 1 need 1 and 2;machine 1 need 1");
    due("key: some part of three", x.key(), 0);
    x.give(1, -1, true);
    due("key: two", x.key(), 1);
    x.give(1, -1, false);
    x.give(0, -1, false);
    due("key: the first", x.key(), 0);
    due("idle", x.idle(), 3);
    due("room", x.room(), 5);
    x.give(0, 0, false);
    x.give(0, 0, true);
    due("room", x.room(), 3);
    due("idle", x.idle(), 2);
    due("no room", new OnlyWhatFits().room(), 0);
    due("idle without machines", village("one 1;one 1;one 1").idle(), 7);
  }

  private static void swapAndTrust() {
    OnlyWhatFits x = village("one 1;one 1 away 4;part by 0;part by 1;part;machine 5 need 0;machine 1 need 1");
    due("swap", x.swap(0, 1), 1);
    holders("swapped", x, 1, 0, -1);
    due("swap with none", x.swap(2, 0), 1);
    holders("swapped", x, -1, 0, 1);
    due("itself", x.swap(1, 1), 0);
    x.give(1, -1, false);
    due("alike: none", x.swap(0, 1), 0);
    due("bad", x.swap(0, 3), -2);
    due("bad", x.swap(-1, 0), -2);
    OnlyWhatFits t = village("one 2;one 2;part by 0 second 1;part by 1;machine 1 need 0");
    t.give(1, -1, false);
    due("seconds stay", t.swap(0, 1), 1);
    seconds("seconds", t, 1, -1);
    OnlyWhatFits y = village("one 1;one 2 away 4;part by 0;part by 1 second 1;machine 5 need 0;machine 1 need 1");
    due("to a worse one, though the hand is full", y.trust(0, 1), 5 * (60 - 100));
    due("to a better one, both pieces", y.trust(1, 0), 100 - 60);
    holders("nothing is given", y, 0, 1);
    seconds("nothing is given", y, -1, 1);
    y.give(1, -1, false);
    y.give(0, -1, false);
    due("a second piece alone", y.trust(1, 0), 100 - 60);
    y.give(0, 0, false);
    y.give(1, 1, false);
    due("to themselves", y.trust(0, 0), BAD_GIFT);
    due("bad", y.trust(0, 2), BAD_GIFT);
    due("bad", y.trust(-1, 0), BAD_GIFT);
    due("bads", y.status(12), 3);
  }

  private static void toldDays() {
    OnlyWhatFits x = village("one 9;one 9;one 9;part by 0 second 1;part by 2;machine 5 need 0;machine 7 need 0 and 1");
    rowOf(x, 0, 2, 7, 2, 1, 4, -1);
    due("stands on none of three", x.judge(0, 0, 3), -1);
    due("stands on the fourth", x.judge(0, 0, 4), 3);
    due("stands on the second", x.judge(1, 0, 5), 1);
    due("no day", x.judge(1, 0, 0), -1);
    due("told", x.told(0, 5), 5 + 7 + 5 + 5 + 0 + 5 + 7);
    due("told of four", x.told(0, 4), 22);
    due("told of none", x.told(0, 0), 0);
    x.cross(1, true);
    due("a cross one doesn't come", x.judge(0, 0, 5), 1);
    due("told", x.told(0, 5), 12 + 0 + 5 + 0 + 12);
    rowOf(x, 1, 3, 0x100000001L, 0x500000000L, 8);
    due("as ints", x.judge(0, 1, 3), 1);
    due("told as ints, bits beyond aside", x.told(1, 3), 5);
    rowOf(x, 2, 0, -3);
    due("bytes with a sign", x.told(2, 1), 12);
    rowOf(x, 3, 4, 5, 0);
    due("booleans as 1, 0", x.judge(0, 3, 2), 1);
    due("told of booleans", x.told(3, 2), 5);
    x.row(4, 0, 20);
    due("20 days", x.judge(0, 4, 20), 0);
    due("20 days", x.told(4, 20), 0);
    x.row(4, 0, 40);
    due("21 days", x.judge(0, 4, 21), -2);
    due("21 days", x.told(4, 21), -2);
    due("-1 days", x.judge(0, 4, -1), -2);
    due("-1 days", x.told(4, -1), -2);
    due("fewer elements", x.judge(0, 0, 6), -2);
    due("fewer elements", x.told(0, 6), -2);
    due("bad machine", x.judge(2, 0, 1), -2);
    due("bad machine ahead of nothing", x.judge(-1, 7, 1), -2);
    due("bad shelf", x.judge(0, 8, 1), -2);
    due("bad shelf", x.told(-1, 1), -2);
    due("nothing", x.judge(0, 7, 1), -4);
    due("nothing", x.told(7, 1), -4);
    due("bad n ahead of nothing", x.told(7, 21), -2);
    due("bad n ahead of nothing", x.judge(0, 7, 21), -2);
    x.holding(7, 1, 0);
    due("other", x.judge(0, 7, 1), -3);
    due("other", x.told(7, 1), -3);
    due("bads", x.status(12), 12);
    due("nothing goes by", x.status(5) + x.status(6), 0);
  }

  /** The draws below 10 from a seed on, by the document's words. */
  private static int[] draws(int seed, int n) {
    int[] found = new int[n];
    int s = seed;
    for (int k = 0; k < n; k++) {
      s = s * 1103515245 + 12345;
      found[k] = (int) ((s & 0xffffffffL) / 65536 % 10);
    }
    return found;
  }

  private static void daysInTruth() {
    OnlyWhatFits x = village("one 9 away 4;one 9 cross;one 9 away 6;part by 0 second 2;part by 2;part by 1 second 0;"
        + "machine 5 need 0;machine 7 need 0 and 1;machine 20 need 2 and 0");
    int[] d = draws(1, 80);
    int sum = 0;
    int[] shares = new int[3];
    for (int k = 0; k < 40; k++) {
      boolean is0 = d[2 * k] >= 4;
      boolean is2 = d[2 * k + 1] >= 6;
      if (is0 || is2) {
        sum += 5;
        shares[0]++;
      }
      if (is2) {
        sum += 7;
        shares[0]++;
        shares[2]++;
      }
      if (is0) {
        sum += 20;
        shares[0]++;
        shares[1]++;
      }
    }
    due("days", x.days(40), sum);
    for (int o = 0; o < 3; o++) {
      due("shares", x.oneOf(o, 4), shares[o]);
    }
    due("days gone by", x.status(5), 40);
    due("yielded", x.status(6), sum);
    OnlyWhatFits y = village("one 9 away 5;part by 0;part by 0;machine 3 need 0 and 1");
    due("seed", y.seed(-77), 1);
    int[] e = draws(-77, 3);
    for (int k = 0; k < 3; k++) {
      due("a day", y.days(1), e[k] >= 5 ? 3 : 0);
    }
    due("seed after", y.status(8), ((-77 * 1103515245 + 12345) * 1103515245 + 12345) * 1103515245 + 12345);
    due("each once a machine", y.oneOf(0, 4), y.status(6) / 3);
    y.away(0, 0);
    int before = y.oneOf(0, 4);
    due("never away", y.days(60), 180);
    due("shares", y.oneOf(0, 4), before + 60);
    y.away(0, 10);
    due("always away", y.days(60), 0);
    due("days gone by", y.status(5), 123);
    int seed = y.status(8);
    y.cross(0, true);
    due("days of cross ones", y.days(1), 0);
    due("no draw for cross ones", y.status(8), seed);
    due("no days", y.days(0), -2);
    due("too many", y.days(61), -2);
    due("below", y.days(-1), -2);
    due("days gone by", y.status(5), 124);
    due("seed back", y.seed(MIN), seed);
    due("seed is", y.seed(3), MIN);
    OnlyWhatFits nobody = village("part;machine 1 need 0");
    due("nobody", nobody.days(2), 0);
    due("days gone by", nobody.status(5), 2);
  }

  private static void imageAndBack() {
    OnlyWhatFits x = village("one 2;one 1 away 3;part by 0 second 1;machine 4 need 0");
    due("nothing kept", x.back(), -5);
    due("stuck", x.status(15), 1);
    x.days(3);
    int seed = x.status(8);
    due("image", x.image(), 1);
    x.days(5);
    due("shares", x.oneOf(0, 4), 8);
    x.cross(1, true);
    x.away(0, 9);
    x.give(0, -1, false);
    x.give(0, -1, true);
    read(x, "part by 0;machine 9 need 1;one 7 cross");
    x.row(0, 3, 2);
    x.set(0, 1, 5);
    x.feed('p', 1);
    x.part();
    due("refused", x.days(0), -2);
    due("back", x.back(), 1);
    due("parts", x.status(0), 1);
    due("machines", x.status(1), 1);
    due("people", x.status(2), 2);
    due("cross", x.status(3), 0);
    due("held", x.status(4), 2);
    due("holder", x.partOf(0, 0), 0);
    due("second", x.partOf(0, 1), 1);
    due("away", x.oneOf(0, 1), 0);
    due("shares", x.oneOf(0, 4), 3);
    due("seed", x.status(8), seed);
    due("needs", x.machineOf(0, 0), 1);
    due("worth", x.machineOf(0, 1), 4);
    due("the tape stays", x.status(7), 1);
    due("shelves stay", x.element(0, 1), 5);
    due("refusals stay", x.status(12), 1);
    due("stuck stays", x.status(15), 1);
    due("days gone by stay", x.status(5), 8);
    due("what they yielded stays", x.status(6), 32);
    x.part();
    due("a part that comes again is new", x.partOf(1, 0), -1);
    due("back once more", x.back(), 1);
    due("parts", x.status(0), 1);
    x.part();
    due("another image", x.image(), 1);
    x.part();
    due("back", x.back(), 1);
    due("parts", x.status(0), 2);
  }

  private static void refusalsAreCounted() {
    OnlyWhatFits x = new OnlyWhatFits();
    x.day();
    x.lay(0);
    x.row(0, 0, 1);
    x.lay(0);
    x.odds(0);
    x.gift(0, 0);
    x.trust(0, 0);
    x.first();
    for (int k = 0; k < 13; k++) {
      x.part();
    }
    int[] counts = {3, 1, 1, 1, 1};
    for (int k = 0; k < 5; k++) {
      due("refusals " + (-2 - k), x.status(12 + k), counts[k]);
    }
    due("nothing is refused by status", x.status(-5) + x.status(10) + x.status(11) + x.status(17), -4);
    due("bads", x.status(12), 3);
  }
}
