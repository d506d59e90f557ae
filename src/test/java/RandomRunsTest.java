import java.util.ArrayList;
import java.util.Arrays;
import java.util.List;
import java.util.regex.Matcher;
import java.util.regex.Pattern;

/**
 * Long runs of calls, made by a fixed rule, answered by the program and by a second model that is
 * written from the document's words in the dearest way: all orders, all sets, all holdings one by one.
 */
public final class RandomRunsTest {

  /** An object is good for 512 calls: a run ends where another text might not be fed within them. */
  private static final int MOST_CALLS = 512 - 130;

  private static long state = 20261118L;

  /** A number from 0 on, below n, by a fixed rule: every run of this test makes the same calls. */
  private static int below(int n) {
    state = state * 6364136223846793005L + 1442695040888963407L;
    return (int) ((state >>> 33) % n);
  }

  private static int pick(int... numbers) {
    return numbers[below(numbers.length)];
  }

  public static void main(String[] args) {
    int wrong = 0;
    int calls = 0;
    for (int run = 0; run < 4000 && wrong < 10; run++) {
      OnlyWhatFits x = new OnlyWhatFits();
      Naive y = new Naive();
      List<String> told = new ArrayList<>();
      int most = pick(3, 4, 5, 6, 8);
      int length = 60 + below(200);
      for (int k = 0; k < length && told.size() < MOST_CALLS; k++) {
        String bad = oneCall(x, y, most, k, told);
        calls++;
        if (bad != null) {
          wrong++;
          System.out.println("run " + run + " call " + k + ": " + bad);
          System.out.println("  " + told);
          break;
        }
      }
    }
    System.out.println(calls + " calls, " + wrong + " runs with a wrong answer");
    if (wrong != 0) {
      System.exit(1);
    }
  }

  private static int part(Naive y) {
    return below(12) == 0 ? pick(-1, y.parts.size(), 12, Integer.MIN_VALUE, Integer.MAX_VALUE) : below(Math.max(1, y.parts.size()));
  }

  private static int machine(Naive y) {
    return below(12) == 0 ? pick(-1, y.machines.size(), 6, Integer.MIN_VALUE, Integer.MAX_VALUE) : below(Math.max(1, y.machines.size()));
  }

  private static int one(Naive y) {
    return below(12) == 0 ? pick(-1, -2, y.people.size(), 8, Integer.MIN_VALUE, Integer.MAX_VALUE) : below(Math.max(1, y.people.size()));
  }

  private static int team(Naive y) {
    return below(12) == 0 ? pick(-1, 1 << y.people.size(), Integer.MIN_VALUE) : below(1 << y.people.size());
  }

  private static int shelf() {
    return below(12) == 0 ? pick(-1, 8, Integer.MIN_VALUE, Integer.MAX_VALUE) : below(4) == 0 ? below(8) : below(3);
  }

  private static String oneCall(OnlyWhatFits x, Naive y, int most, int k, List<String> told) {
    int a;
    int b;
    int c;
    switch (k < 25 ? pick(8, 8, 9, 10, 10, 13, 13, 14) : below(56)) {
      case 0: a = shelf(); b = below(12) == 0 ? pick(-1, 5) : below(5); c = below(9) == 0 ? pick(-1, 41, 40, 0) : below(9);
        return same("row " + a + " " + b + " " + c, x.row(a, b, c), y.row(a, b, c), told);
      case 1: a = shelf(); b = below(10) - 1; long v = below(3) == 0 ? state : below(300) - 20;
        return same("set " + a + " " + b + " " + v, x.set(a, b, v), y.set(a, b, v), told);
      case 2: a = shelf(); b = shelf(); c = below(6) - (below(9) == 0 ? 1 : 0); int j = below(5) - (below(9) == 0 ? 1 : 0);
        int n = below(5) - (below(9) == 0 ? 1 : 0);
        return same("copy " + a + " " + b + " " + c + " " + j + " " + n, x.copy(a, b, c, j, n), y.copy(a, b, c, j, n), told);
      case 3: a = shelf(); b = below(10) - 1;
        return same("element " + a + " " + b, x.element(a, b), y.element(a, b), told);
      case 4: a = shelf();
        return same("holds " + a, x.holds(a), y.holds(a), told);
      case 5: case 6: a = shelf(); b = below(7); c = below(9) == 0 ? pick(-1, 100, 99) : below(12);
        return same("holding " + a + " " + b + " " + c, x.holding(a, b, c), y.holding(a, b, c), told);
      case 7: a = shelf(); b = below(8) - 1;
        return same("says " + a + " " + b, x.says(a, b), y.says(a, b), told);
      case 8:
        return same("part", x.part(), y.part(), told);
      case 9: a = below(9) == 0 ? pick(0, -1, 1 << y.parts.size(), 4096) : below(1 << y.parts.size()) & below(1 << y.parts.size());
        b = below(9) == 0 ? pick(0, 100, -1) : 1 + below(pick(3, 99));
        return same("machine " + a + " " + b, x.machine(a, b), y.machine(a, b), told);
      case 10: if (y.people.size() >= most && below(20) != 0) { return null; }
        a = below(9) == 0 ? pick(-1, 10) : below(pick(3, 5, 10)); b = below(9) == 0 ? pick(-1, 11) : below(11);
        return same("one " + a + " " + b, x.one(a, b), y.one(a, b), told);
      case 11: a = one(y); b = below(13) - 1;
        return same("away " + a + " " + b, x.away(a, b), y.away(a, b), told);
      case 12: a = one(y); boolean is = below(3) == 0;
        return same("cross " + a + " " + is, x.cross(a, is), y.cross(a, is), told);
      case 13: a = part(y); b = one(y); boolean second = below(3) == 0;
        return same("give " + a + " " + b + " " + second, x.give(a, b, second), y.give(a, b, second), told);
      case 14: String text = Texts.village(y);
        for (int i = 0; i < text.length(); i += 2) {
          boolean isPair = i + 2 <= text.length();
          int w = isPair ? text.charAt(i) << 8 | text.charAt(i + 1) : text.charAt(i);
          String bad = same("feed " + w, x.feed(w, isPair ? 2 : 1), y.feed(w, isPair ? 2 : 1), told);
          if (bad != null) { return bad; }
        }
        return below(9) == 0 ? null : same("village of '" + text + "'", x.village(), y.village(), told);
      case 15: a = (int) state; b = below(6);
        return same("feed " + a + " " + b, x.feed(a, b), y.feed(a, b), told);
      case 16: return below(2) == 0 ? same("wipe", x.wipe(), y.wipe(), told) : same("village", x.village(), y.village(), told);
      case 17: a = part(y); b = below(4) - 1;
        return same("partOf " + a + " " + b, x.partOf(a, b), y.partOf(a, b), told);
      case 18: a = machine(y); b = below(4) - 1;
        return same("machineOf " + a + " " + b, x.machineOf(a, b), y.machineOf(a, b), told);
      case 19: a = one(y); b = below(7) - 1;
        return same("oneOf " + a + " " + b, x.oneOf(a, b), y.oneOf(a, b), told);
      case 20: a = team(y);
        return same("has " + a, x.has(a), y.has(a), told);
      case 21: a = machine(y); b = team(y);
        return same("works " + a + " " + b, x.works(a, b), y.works(a, b), told);
      case 22: a = machine(y); b = machine(y); c = team(y);
        return same("both " + a + " " + b + " " + c, x.both(a, b, c), y.both(a, b, c), told);
      case 23: a = machine(y);
        return same("odds " + a, x.odds(a), y.odds(a), told);
      case 24: a = machine(y); b = machine(y);
        return same("atOnce " + a + " " + b, x.atOnce(a, b), y.atOnce(a, b), told);
      case 25: return same("day", x.day(), y.day(), told);
      case 26: a = machine(y); b = one(y);
        return y.isDear() ? null : same("power " + a + " " + b, x.power(a, b), y.power(a, b), told);
      case 27: return y.isDear() ? null : same("first", x.first(), y.first(), told);
      case 28: a = shelf(); return below(3) != 0 ? null : same("lay " + a, x.lay(a), y.lay(a), told);
      case 29: a = shelf(); return same("would " + a, x.would(a), y.would(a), told);
      case 30: return same("head", x.head(), y.head(), told);
      case 31: a = part(y); return y.isDearToSearch() ? null : same("best " + a, x.best(a), y.best(a), told);
      case 32: return y.isDearToSearch() ? null : same("bestDay", x.bestDay(), y.bestDay(), told);
      case 33: a = machine(y); return same("bears " + a, x.bears(a), y.bears(a), told);
      case 34: return same("harms", x.harms(), y.harms(), told);
      case 35: return same("least", x.least(), y.least(), told);
      case 36: return same("stolen", x.stolen(), y.stolen(), told);
      case 37: return same("spare", x.spare(), y.spare(), told);
      case 38: a = part(y); b = one(y); return same("gift " + a + " " + b, x.gift(a, b), y.gift(a, b), told);
      case 39: is = below(2) == 0; return same("never " + is, x.never(is), y.never(is), told);
      case 40: a = machine(y); return same("with " + a, x.with(a), y.with(a), told);
      case 41: a = below(3) == 0 ? below(11) - 1 : below(4); return same("safe " + a, x.safe(a), y.safe(a), told);
      case 42: a = one(y); return same("alone " + a, x.alone(a), y.alone(a), told);
      case 43: return same("key", x.key(), y.key(), told);
      case 44: return y.isDear() ? null : same("idle", x.idle(), y.idle(), told);
      case 45: return same("room", x.room(), y.room(), told);
      case 46: a = part(y); b = part(y); return same("swap " + a + " " + b, x.swap(a, b), y.swap(a, b), told);
      case 47: a = one(y); b = one(y); return same("trust " + a + " " + b, x.trust(a, b), y.trust(a, b), told);
      case 48: a = machine(y); b = shelf(); c = below(9) == 0 ? pick(-1, 20, 21) : below(7);
        return same("judge " + a + " " + b + " " + c, x.judge(a, b, c), y.judge(a, b, c), told);
      case 49: a = shelf(); b = below(9) == 0 ? pick(-1, 20, 21) : below(7);
        return same("told " + a + " " + b, x.told(a, b), y.told(a, b), told);
      case 50: a = below(9) == 0 ? pick(0, -1, 60, 61) : 1 + below(9); return same("days " + a, x.days(a), y.days(a), told);
      case 51: a = (int) state; return below(3) != 0 ? null : same("seed " + a, x.seed(a), y.seed(a), told);
      case 52: return same("image", x.image(), y.image(), told);
      case 53: return below(3) != 0 ? null : same("back", x.back(), y.back(), told);
      default: a = below(19) - 1; return same("status " + a, x.status(a), y.status(a), told);
    }
  }

  private static String same(String call, long got, long want, List<String> told) {
    told.add(call + " -> " + want);
    return got == want ? null : call + " answered " + got + ", due is " + want;
  }

  /** Villages' texts: most may be read, many have a small fault. */
  private static final class Texts {
    static String village(Naive y) {
      StringBuilder text = new StringBuilder();
      int parts = y.parts.size();
      int people = y.people.size();
      int n = 1 + below(4);
      for (int k = 0; k < n; k++) {
        if (k > 0) {
          text.append(gap()).append(";").append(gap());
        }
        int what = below(4);
        if (what == 0) {
          text.append("part");
          parts++;
          if (below(2) == 0) {
            text.append(gap()).append("by").append(gap()).append(number(people));
          }
          if (below(3) == 0) {
            text.append(gap()).append("second").append(gap()).append(number(people));
          }
        } else if (what == 1) {
          text.append("machine").append(gap()).append(below(8) == 0 ? pick(0, 99, 100, 1) : 1 + below(20)).append(gap()).append("need");
          text.append(gap()).append(number(parts));
          for (int i = below(3); i > 0; i--) {
            text.append(gap()).append("and").append(gap()).append(number(parts));
          }
        } else if (what == 2) {
          text.append("one").append(gap()).append(number(10));
          people++;
          if (below(2) == 0) {
            text.append(gap()).append("away").append(gap()).append(number(11));
          }
          if (below(4) == 0) {
            text.append(" cross");
          }
        } else {
          text.append("gives").append(gap()).append(number(parts)).append(" ").append(gap()).append(number(people));
        }
      }
      if (below(6) == 0) {
        text.setLength(below(text.length() + 1));
      }
      if (below(6) == 0 && text.length() > 0) {
        text.setCharAt(below(text.length()), (char) pick(' ', ';', 'a', '0', 0, 255, 'A', 'z', '9', '/', ':', '`', '{', 10));
      }
      return text.toString();
    }

    static String gap() {
      return pick(0, 0, 0, 1) == 0 ? " " : below(2) == 0 ? "" : "  ";
    }

    static String number(int n) {
      int k = below(Math.max(1, n));
      return below(15) == 0 ? "0" + k : below(15) == 0 ? "" + n : "" + k;
    }
  }

  /** The second model. */
  private static final class Naive {
    static final class Part { int holder = -1; int second = -1; }
    static final class Machine { int needs; int worth; }
    static final class One { int hand; int away; boolean cross; int shares; }

    List<Part> parts = new ArrayList<>();
    List<Machine> machines = new ArrayList<>();
    List<One> people = new ArrayList<>();
    int seed = 1;
    String tape = "";
    Object[] shelves = new Object[8];
    int[] refused = new int[7];
    int daysGone;
    int yielded;
    Naive kept;

    static final class Row { int sort; long[] e; }
    static final class Holding { int kind; int a; }

    boolean isDear() { return people.size() > 6 && below(4) != 0; }
    boolean isDearToSearch() { return people.size() == 4 && parts.size() == 6 && below(3) != 0; }

    Naive twin() {
      Naive t = new Naive();
      for (Part p : parts) { Part q = new Part(); q.holder = p.holder; q.second = p.second; t.parts.add(q); }
      for (Machine m : machines) { Machine q = new Machine(); q.needs = m.needs; q.worth = m.worth; t.machines.add(q); }
      for (One o : people) { One q = new One(); q.hand = o.hand; q.away = o.away; q.cross = o.cross; q.shares = o.shares; t.people.add(q); }
      t.seed = seed;
      return t;
    }

    void become(Naive t) {
      Naive c = t.twin();
      parts = c.parts; machines = c.machines; people = c.people; seed = c.seed;
    }

    int refuse(int why) { refused[-why]++; return why; }
    boolean isShelf(int s) { return s >= 0 && s < 8; }
    boolean isPart(int p) { return p >= 0 && p < parts.size(); }
    boolean isMachine(int m) { return m >= 0 && m < machines.size(); }
    boolean isOne(int o) { return o >= 0 && o < people.size(); }
    boolean isTeam(int s) { return s >= 0 && s < 1 << people.size(); }
    int all() { return (1 << people.size()) - 1; }
    int size() { return people.size(); }

    int row(int s, int sort, int n) {
      if (!isShelf(s) || sort < 0 || sort > 4 || n < 0 || n > 40) { return refuse(-2); }
      Row r = new Row(); r.sort = sort; r.e = new long[n]; shelves[s] = r;
      return 1;
    }

    int set(int s, int i, long v) {
      if (!isShelf(s)) { return refuse(-2); }
      if (shelves[s] instanceof Holding) { return refuse(-3); }
      if (shelves[s] == null) { return refuse(-4); }
      Row r = (Row) shelves[s];
      if (i < 0 || i >= r.e.length) { return refuse(-2); }
      r.e[i] = r.sort == 0 ? v << 56 >> 56 : r.sort == 1 ? v << 48 >> 48 : r.sort == 2 ? v << 32 >> 32 : r.sort == 3 ? v : v != 0 ? 1 : 0;
      return 1;
    }

    int copy(int p, int q, int i, int j, int n) {
      if (!isShelf(p) || !isShelf(q)) { return refuse(-2); }
      Object a = shelves[p];
      Object b = shelves[q];
      if (a instanceof Holding || b instanceof Holding || a != null && b != null && ((Row) a).sort != ((Row) b).sort) { return refuse(-3); }
      if (a == null || b == null) { return refuse(-4); }
      long[] from = ((Row) a).e;
      long[] to = ((Row) b).e;
      if (i < 0 || j < 0 || n < 0 || (long) i + n > from.length || (long) j + n > to.length) { return refuse(-2); }
      long[] were = from.clone();
      for (int k = 0; k < n; k++) { to[j + k] = were[i + k]; }
      return n;
    }

    long element(int s, int i) {
      return isShelf(s) && shelves[s] instanceof Row && i >= 0 && i < ((Row) shelves[s]).e.length ? ((Row) shelves[s]).e[i] : 0;
    }

    int holds(int s) {
      if (!isShelf(s) || shelves[s] == null) { return -1; }
      return shelves[s] instanceof Row ? ((Row) shelves[s]).sort : 10 + ((Holding) shelves[s]).kind;
    }

    int holding(int s, int kind, int a) {
      if (!isShelf(s) || kind < 1 || kind > 5 || a < 0 || a > 99) { return refuse(-2); }
      Holding h = new Holding(); h.kind = kind; h.a = a; shelves[s] = h;
      return 1;
    }

    int says(int s, int kind) {
      if (!isShelf(s) || kind < 0 || kind > 5) { return refuse(-2); }
      if (shelves[s] == null) { return refuse(-4); }
      if (shelves[s] instanceof Row) { return refuse(-3); }
      Holding h = (Holding) shelves[s];
      List<Integer> chain = Arrays.asList(new Integer[][] {{0}, {1, 0}, {2, 0}, {3, 2, 0}, {4, 2, 0}, {5, 1, 0}}[h.kind]);
      if (!chain.contains(kind)) { return refuse(-3); }
      if (kind == 0) { return h.a; }
      Naive t = laid(h);
      int count = 0;
      for (Part p : t.parts) { if ((kind == 3 ? p.second : p.holder) >= 0) { count++; } }
      return count;
    }

    /** The village as it would be by a holding. */
    Naive laid(Holding h) {
      Naive t = twin();
      for (Part p : t.parts) { p.holder = -1; p.second = -1; }
      if (h.kind == 1 || h.kind == 5) { t.whole(h.kind == 5 && h.a > 0 ? h.a : 99); }
      if (h.kind == 2 || h.kind == 3) {
        int next = h.a;
        for (Part p : t.parts) {
          for (int k = 0; k < size() && p.holder < 0; k++) { if (t.free((next + k) % size())) { p.holder = (next + k) % size(); } }
          if (p.holder >= 0) { next = p.holder + 1; }
        }
        for (Part p : t.parts) {
          for (int k = 0; k < size() && p.second < 0 && h.kind == 3; k++) {
            int o = (next + k) % size();
            if (t.free(o) && o != p.holder) { p.second = o; }
          }
          if (p.second >= 0) { next = p.second + 1; }
        }
      }
      if (h.kind == 4) {
        for (Part p : t.parts) {
          int found = -1;
          for (int o = size() - 1; o >= 0; o--) {
            if (t.free(o) && (found < 0 || people.get(o).away <= people.get(found).away)) { found = o; }
          }
          p.holder = found;
        }
      }
      return t;
    }

    void whole(int among) {
      List<Machine> order = new ArrayList<>(machines);
      order.sort((m, n) -> n.worth - m.worth);
      for (Machine m : order) {
        for (int p = 0; p < parts.size(); p++) {
          if ((m.needs >> p & 1) == 1 && parts.get(p).holder < 0) {
            int found = -1;
            for (int o = 0; o < Math.min(among, size()) && found < 0; o++) {
              boolean hasOne = false;
              for (int q = 0; q < parts.size(); q++) { hasOne |= (m.needs >> q & 1) == 1 && parts.get(q).holder == o; }
              if (hasOne && free(o)) { found = o; }
            }
            for (int o = 0; o < Math.min(among, size()) && found < 0; o++) { if (free(o)) { found = o; } }
            parts.get(p).holder = found;
          }
        }
      }
      for (Part p : parts) {
        for (int o = 0; o < Math.min(among, size()) && p.holder < 0; o++) { if (free(o)) { p.holder = o; } }
      }
    }

    int pieces(int o) {
      int count = 0;
      for (Part p : parts) { count += (p.holder == o ? 1 : 0) + (p.second == o ? 1 : 0); }
      return count;
    }

    boolean free(int o) { return pieces(o) < people.get(o).hand; }

    int part() {
      if (parts.size() == 12) { return refuse(-6); }
      parts.add(new Part());
      return parts.size() - 1;
    }

    int machine(int needs, int worth) {
      if (needs <= 0 || needs >= 1 << parts.size() || worth < 1 || worth > 99) { return refuse(-2); }
      if (machines.size() == 6) { return refuse(-6); }
      Machine m = new Machine(); m.needs = needs; m.worth = worth; machines.add(m);
      return machines.size() - 1;
    }

    int one(int hand, int away) {
      if (hand < 0 || hand > 9 || away < 0 || away > 10) { return refuse(-2); }
      if (size() == 8) { return refuse(-6); }
      One o = new One(); o.hand = hand; o.away = away; people.add(o);
      return size() - 1;
    }

    int away(int one, int v) {
      if (!isOne(one) || v < 0 || v > 10) { return refuse(-2); }
      int was = people.get(one).away;
      people.get(one).away = v;
      return was;
    }

    int cross(int one, boolean is) {
      if (!isOne(one)) { return refuse(-2); }
      boolean was = people.get(one).cross;
      people.get(one).cross = is;
      return was == is ? 0 : 1;
    }

    int give(int part, int one, boolean second) {
      if (!isPart(part) || one != -1 && !isOne(one)) { return refuse(-2); }
      Part p = parts.get(part);
      int was = second ? p.second : p.holder;
      if (second) { p.second = -1; } else { p.holder = -1; }
      boolean stuck = one >= 0 && !free(one);
      int becomes = stuck ? was : one;
      if (second) { p.second = becomes; } else { p.holder = becomes; }
      return stuck ? refuse(-5) : was;
    }

    int feed(int v, int n) {
      if (n < 1 || n > 4) { return refuse(-2); }
      if (tape.length() + n > 250) { return refuse(-6); }
      char[] four = {(char) (v >>> 24), (char) (v >>> 16 & 255), (char) (v >>> 8 & 255), (char) (v & 255)};
      tape += new String(four, 4 - n, n);
      return tape.length();
    }

    int wipe() {
      int was = tape.length();
      tape = "";
      return was;
    }

    int village() {
      Naive t = twin();
      List<String> tokens = new ArrayList<>();
      List<Integer> places = new ArrayList<>();
      Matcher m = Pattern.compile("[a-z]+|[0-9]+|;|[^ ]", Pattern.DOTALL).matcher(tape);
      while (m.find()) { tokens.add(m.group()); places.add(m.start()); }
      tokens.add("$end");
      places.add(tape.length());
      int[] at = {0};
      int statements = 0;
      boolean fine = true;
      boolean more = true;
      while (fine && more) {
        fine = t.statement(tokens, at);
        if (fine) {
          statements++;
          String next = tokens.get(at[0]);
          more = !next.equals("$end");
          if (more && !next.equals(";")) { fine = false; } else if (more) { at[0]++; }
        }
      }
      tape = "";
      if (!fine) { refuse(-2); return -20 - places.get(at[0]); }
      become(t);
      return statements;
    }

    int num(String token, int n) {
      int v = token.matches("[0-9]{1,2}") ? Integer.parseInt(token) : -1;
      return v < n ? v : -1;
    }

    boolean statement(List<String> tokens, int[] at) {
      String word = tokens.get(at[0]);
      if (word.equals("part") && parts.size() < 12) {
        at[0]++;
        Part p = new Part();
        parts.add(p);
        for (String role : new String[] {"by", "second"}) {
          if (tokens.get(at[0]).equals(role)) {
            at[0]++;
            int o = num(tokens.get(at[0]), size());
            if (o < 0 || !free(o)) { return false; }
            if (role.equals("by")) { p.holder = o; } else { p.second = o; }
            at[0]++;
          }
        }
        return true;
      }
      if (word.equals("machine") && machines.size() < 6) {
        at[0]++;
        Machine m = new Machine();
        m.worth = num(tokens.get(at[0]), 100);
        if (m.worth < 1) { return false; }
        at[0]++;
        String link = "need";
        while (tokens.get(at[0]).equals(link)) {
          at[0]++;
          int p = num(tokens.get(at[0]), parts.size());
          if (p < 0) { return false; }
          m.needs |= 1 << p;
          at[0]++;
          link = "and";
        }
        machines.add(m);
        return m.needs != 0;
      }
      if (word.equals("one") && size() < 8) {
        at[0]++;
        One o = new One();
        o.hand = num(tokens.get(at[0]), 10);
        if (o.hand < 0) { return false; }
        at[0]++;
        if (tokens.get(at[0]).equals("away")) {
          at[0]++;
          o.away = num(tokens.get(at[0]), 11);
          if (o.away < 0) { return false; }
          at[0]++;
        }
        if (tokens.get(at[0]).equals("cross")) { o.cross = true; at[0]++; }
        people.add(o);
        return true;
      }
      if (word.equals("gives")) {
        at[0]++;
        int p = num(tokens.get(at[0]), parts.size());
        if (p < 0) { return false; }
        at[0]++;
        int o = num(tokens.get(at[0]), size());
        if (o < 0) { return false; }
        parts.get(p).holder = parts.get(p).holder == o ? o : parts.get(p).holder;
        int was = parts.get(p).holder;
        parts.get(p).holder = -1;
        if (!free(o)) { parts.get(p).holder = was; return false; }
        parts.get(p).holder = o;
        at[0]++;
        return true;
      }
      return false;
    }

    int partOf(int part, int what) {
      if (!isPart(part) || what != 0 && what != 1) { return refuse(-2); }
      return what == 0 ? parts.get(part).holder : parts.get(part).second;
    }

    int machineOf(int machine, int what) {
      if (!isMachine(machine) || what != 0 && what != 1) { return refuse(-2); }
      return what == 0 ? machines.get(machine).needs : machines.get(machine).worth;
    }

    int oneOf(int one, int what) {
      if (!isOne(one) || what < 0 || what > 4) { return refuse(-2); }
      One o = people.get(one);
      return new int[] {o.hand, o.away, o.cross ? 1 : 0, pieces(one), o.shares}[what];
    }

    boolean in(int team, int o) { return o >= 0 && (team >> o & 1) == 1; }
    boolean hasPart(int team, int p) { return in(team, parts.get(p).holder) || in(team, parts.get(p).second); }

    boolean worked(int m, int team) {
      for (int p = 0; p < parts.size(); p++) {
        if ((machines.get(m).needs >> p & 1) == 1 && !hasPart(team, p)) { return false; }
      }
      return true;
    }

    boolean bothWorked(int m, int n, int team) {
      for (int p = 0; p < parts.size(); p++) {
        boolean shared = (machines.get(m).needs & machines.get(n).needs & 1 << p) != 0;
        if (shared && !(in(team, parts.get(p).holder) && in(team, parts.get(p).second))) { return false; }
      }
      return worked(m, team) && worked(n, team);
    }

    int has(int team) {
      if (!isTeam(team)) { return refuse(-2); }
      int found = 0;
      for (int p = 0; p < parts.size(); p++) { found += hasPart(team, p) ? 1 << p : 0; }
      return found;
    }

    int works(int m, int team) {
      return !isMachine(m) || !isTeam(team) ? refuse(-2) : worked(m, team) ? 1 : 0;
    }

    int both(int m, int n, int team) {
      return !isMachine(m) || !isMachine(n) || m == n || !isTeam(team) ? refuse(-2) : bothWorked(m, n, team) ? 1 : 0;
    }

    /** How likely just a set comes; 0 for sets with cross ones. */
    long weight(int team) {
      long w = 1;
      for (int o = 0; o < size(); o++) {
        One q = people.get(o);
        if (in(team, o) && q.cross) { return 0; }
        w *= in(team, o) ? 10 - q.away : q.cross ? 10 : q.away;
      }
      return w;
    }

    long oddsNow(int m) {
      long sum = 0;
      for (int team = 0; team <= all(); team++) { sum += worked(m, team) ? weight(team) : 0; }
      return sum;
    }

    long odds(int m) { return isMachine(m) ? oddsNow(m) : refuse(-2); }

    long atOnce(int m, int n) {
      if (!isMachine(m) || !isMachine(n) || m == n) { return refuse(-2); }
      long sum = 0;
      for (int team = 0; team <= all(); team++) { sum += bothWorked(m, n, team) ? weight(team) : 0; }
      return sum;
    }

    long day() {
      long sum = 0;
      for (int m = 0; m < machines.size(); m++) { sum += machines.get(m).worth * oddsNow(m); }
      return sum;
    }

    /** Turns of a machine on each of the people, order by order. */
    long[] turns(int m) {
      long[] count = new long[size()];
      orders(m, 0, count);
      return count;
    }

    void orders(int m, int there, long[] count) {
      for (int o = 0; o < size(); o++) {
        if (!in(there, o)) {
          if (worked(m, there | 1 << o)) {
            long rest = 1;
            for (int k = 2; k < size() - Integer.bitCount(there); k++) { rest *= k; }
            count[o] += rest;
          } else {
            orders(m, there | 1 << o, count);
          }
        }
      }
    }

    int power(int m, int o) { return !isMachine(m) || !isOne(o) ? refuse(-2) : (int) turns(m)[o]; }

    int first() {
      if (size() == 0) { return refuse(-5); }
      long[] sum = new long[size()];
      for (int m = 0; m < machines.size(); m++) {
        long[] t = turns(m);
        for (int o = 0; o < size(); o++) { sum[o] += t[o] * machines.get(m).worth; }
      }
      int found = 0;
      for (int o = 0; o < size(); o++) { found = sum[o] > sum[found] ? o : found; }
      return found;
    }

    int holdingRefused(int s) {
      if (!isShelf(s)) { return refuse(-2); }
      if (shelves[s] instanceof Row) { return refuse(-3); }
      return shelves[s] == null ? refuse(-4) : 0;
    }

    int lay(int s) {
      int bad = holdingRefused(s);
      if (bad != 0) { return bad; }
      become(laid((Holding) shelves[s]));
      int count = 0;
      for (Part p : parts) { count += p.holder >= 0 ? 1 : 0; }
      return count;
    }

    long would(int s) {
      int bad = holdingRefused(s);
      return bad != 0 ? bad : laid((Holding) shelves[s]).day();
    }

    int head() {
      int found = -1;
      long most = 0;
      for (int s = 7; s >= 0; s--) {
        if (shelves[s] instanceof Holding) {
          long d = laid((Holding) shelves[s]).day();
          if (found < 0 || d >= most) { found = s; most = d; }
        }
      }
      return found < 0 ? refuse(-5) : found;
    }

    int[] bestHolders;
    long bestWorth;

    /** All ways, part 0 outermost and nobody first, so the first of several is the one looked for. */
    void search(Naive t, int p) {
      if (p == parts.size()) {
        long d = t.day();
        if (d > bestWorth) {
          bestWorth = d;
          for (int q = 0; q < p; q++) { bestHolders[q] = t.parts.get(q).holder; }
        }
        return;
      }
      for (int o = -1; o < size(); o++) {
        t.parts.get(p).holder = -1;
        if (o < 0 || t.free(o)) {
          t.parts.get(p).holder = o;
          search(t, p + 1);
          t.parts.get(p).holder = -1;
        }
      }
    }

    void search() {
      Naive t = twin();
      for (Part p : t.parts) { p.holder = -1; p.second = -1; }
      bestHolders = new int[6];
      bestWorth = -1;
      search(t, 0);
    }

    int best(int part) {
      if (!isPart(part)) { return refuse(-2); }
      if (size() > 4 || parts.size() > 6) { return refuse(-5); }
      search();
      return bestHolders[part];
    }

    long bestDay() {
      if (size() > 4 || parts.size() > 6) { return refuse(-5); }
      search();
      return bestWorth;
    }

    int bearsNow(int m) {
      int willing = 0;
      for (int o = 0; o < size(); o++) { willing |= people.get(o).cross ? 0 : 1 << o; }
      int found = -1;
      for (int k = 0; k <= Integer.bitCount(willing); k++) {
        boolean holds = true;
        for (int gone = 0; gone <= all(); gone++) {
          if ((gone & ~willing) == 0 && Integer.bitCount(gone) == k) { holds &= worked(m, willing - gone); }
        }
        found = holds ? k : found;
      }
      return found;
    }

    int bears(int m) {
      if (!isMachine(m)) { return refuse(-2); }
      int k = bearsNow(m);
      return k < 0 ? refuse(-5) : k;
    }

    int harms() {
      int found = -1;
      long least = 0;
      for (int o = 0; o < size(); o++) {
        if (!people.get(o).cross) {
          people.get(o).cross = true;
          long d = day();
          people.get(o).cross = false;
          if (found < 0 || d < least) { found = o; least = d; }
        }
      }
      return found < 0 ? refuse(-5) : found;
    }

    boolean anyWorked(int team) {
      for (int m = 0; m < machines.size(); m++) { if (worked(m, team)) { return true; } }
      return false;
    }

    int least() {
      for (int k = 0; k <= size(); k++) {
        for (int gone = 0; gone <= all(); gone++) {
          if (Integer.bitCount(gone) == k && !anyWorked(all() - gone)) { return gone; }
        }
      }
      return -99;
    }

    int stolen() {
      for (int k = 0; k <= parts.size(); k++) {
        for (int gone = 0; gone < 1 << parts.size(); gone++) {
          if (Integer.bitCount(gone) == k) {
            boolean any = false;
            for (int m = 0; m < machines.size(); m++) { any |= (machines.get(m).needs & gone) == 0 && worked(m, all()); }
            if (!any) { return gone; }
          }
        }
      }
      return -99;
    }

    int spare() {
      int found = -1;
      long most = day();
      for (int p = 0; p < parts.size(); p++) {
        for (int o = 0; o < size(); o++) {
          if (parts.get(p).second == -1 && parts.get(p).holder != o && free(o)) {
            parts.get(p).second = o;
            long d = day();
            parts.get(p).second = -1;
            if (d > most) { most = d; found = 10 * p + o; }
          }
        }
      }
      return found;
    }

    long gift(int part, int one) {
      if (!isPart(part) || !isOne(one)) { refuse(-2); return -1000000000002L; }
      long was = day();
      int holder = parts.get(part).holder;
      parts.get(part).holder = -1;
      if (!free(one)) { parts.get(part).holder = holder; refuse(-5); return -1000000000005L; }
      parts.get(part).holder = one;
      long more = day() - was;
      parts.get(part).holder = holder;
      return more;
    }

    int never(boolean ofMachines) {
      int found = 0;
      for (int p = 0; p < parts.size() && !ofMachines; p++) {
        if (parts.get(p).holder < 0 && parts.get(p).second < 0) { found |= 1 << p; }
      }
      for (int m = 0; m < machines.size() && ofMachines; m++) {
        boolean ever = false;
        for (int team = 0; team <= all(); team++) { ever |= worked(m, team); }
        found |= ever ? 0 : 1 << m;
      }
      return found;
    }

    int with(int m) {
      if (!isMachine(m)) { return refuse(-2); }
      for (int k = 0; k <= size(); k++) {
        for (int team = 0; team <= all(); team++) {
          if (Integer.bitCount(team) == k && worked(m, team)) { return team; }
        }
      }
      return refuse(-5);
    }

    int safe(int k) {
      if (k < 0 || k > 8) { return refuse(-2); }
      int found = 0;
      for (int m = 0; m < machines.size(); m++) { found |= bearsNow(m) >= k ? 1 << m : 0; }
      return found;
    }

    int alone(int o) {
      if (!isOne(o)) { return refuse(-2); }
      int found = 0;
      for (int m = 0; m < machines.size(); m++) { found |= worked(m, 1 << o) ? 1 << m : 0; }
      return found;
    }

    int key() {
      if (size() == 0) { return refuse(-5); }
      int[] count = new int[size()];
      for (int o = 0; o < size(); o++) {
        for (Machine m : machines) {
          boolean some = false;
          for (int p = 0; p < parts.size(); p++) { some |= (m.needs >> p & 1) == 1 && hasPart(1 << o, p); }
          count[o] += some ? 1 : 0;
        }
      }
      int found = 0;
      for (int o = 0; o < size(); o++) { found = count[o] > count[found] ? o : found; }
      return found;
    }

    int idle() {
      int found = all();
      for (int m = 0; m < machines.size(); m++) {
        long[] t = turns(m);
        for (int o = 0; o < size(); o++) { found &= t[o] > 0 ? ~(1 << o) : -1; }
      }
      return found;
    }

    int room() {
      int sum = 0;
      for (int o = 0; o < size(); o++) { sum += people.get(o).hand - pieces(o); }
      return sum;
    }

    int swap(int p, int q) {
      if (!isPart(p) || !isPart(q)) { return refuse(-2); }
      int a = parts.get(p).holder;
      int b = parts.get(q).holder;
      parts.get(p).holder = b;
      parts.get(q).holder = a;
      return a == b ? 0 : 1;
    }

    long trust(int o, int q) {
      if (!isOne(o) || !isOne(q) || o == q) { refuse(-2); return -1000000000002L; }
      Naive t = twin();
      for (Part p : t.parts) { if (p.holder == o) { p.holder = q; } if (p.second == o) { p.second = q; } }
      return t.day() - day();
    }

    int toldRefused(int s, int n) {
      if (!isShelf(s) || n < 0 || n > 20) { return refuse(-2); }
      if (shelves[s] instanceof Holding) { return refuse(-3); }
      if (shelves[s] == null) { return refuse(-4); }
      return ((Row) shelves[s]).e.length < n ? refuse(-2) : 0;
    }

    int come(int s, int d) {
      int team = 0;
      for (int o = 0; o < size(); o++) { team |= !people.get(o).cross && ((int) ((Row) shelves[s]).e[d] >> o & 1) == 1 ? 1 << o : 0; }
      return team;
    }

    int judge(int m, int s, int n) {
      if (!isMachine(m)) { return refuse(-2); }
      int bad = toldRefused(s, n);
      if (bad != 0) { return bad; }
      for (int d = 0; d < n; d++) { if (!worked(m, come(s, d))) { return d; } }
      return -1;
    }

    int told(int s, int n) {
      int bad = toldRefused(s, n);
      if (bad != 0) { return bad; }
      int sum = 0;
      for (int m = 0; m < machines.size(); m++) {
        for (int d = 0; d < n; d++) { sum += worked(m, come(s, d)) ? machines.get(m).worth : 0; }
      }
      return sum;
    }

    int days(int n) {
      if (n < 1 || n > 60) { return refuse(-2); }
      int sum = 0;
      for (int d = 0; d < n; d++) {
        int team = 0;
        for (int o = 0; o < size(); o++) {
          if (!people.get(o).cross) {
            seed = (int) (seed * 1103515245L + 12345L);
            long upper = (seed & 0xffffffffL) / 65536;
            if (upper % 10 >= people.get(o).away) { team |= 1 << o; }
          }
        }
        for (int m = 0; m < machines.size(); m++) {
          if (worked(m, team)) {
            sum += machines.get(m).worth;
            for (int o = 0; o < size(); o++) {
              boolean owns = false;
              for (int p = 0; p < parts.size(); p++) { owns |= (machines.get(m).needs >> p & 1) == 1 && parts.get(p).holder == o; }
              if (owns) { people.get(o).shares++; }
            }
          }
        }
      }
      daysGone += n;
      yielded += sum;
      return sum;
    }

    int seed(int v) {
      int was = seed;
      seed = v;
      return was;
    }

    int image() {
      kept = twin();
      return 1;
    }

    int back() {
      if (kept == null) { return refuse(-5); }
      become(kept);
      return 1;
    }

    int status(int what) {
      int held = 0;
      int cross = 0;
      int full = 0;
      for (int o = 0; o < size(); o++) { held += pieces(o); cross += people.get(o).cross ? 1 : 0; }
      for (Object s : shelves) { full += s != null ? 1 : 0; }
      int[] first = {parts.size(), machines.size(), size(), cross, held, daysGone, yielded, tape.length(), seed, full};
      return what >= 0 && what < 10 ? first[what] : what >= 12 && what <= 16 ? refused[what - 10] : -1;
    }
  }
}
