import java.util.ArrayList;
import java.util.Arrays;
import java.util.List;
import java.util.NoSuchElementException;
import java.util.function.ToIntFunction;

/**
 * The document written once more in another way, to hold the class against it: whole copies instead of rings,
 * all rows tried instead of tables, laws as trees, faults as the farthest failure of a reader that tries all ways.
 */
final class Model {
  private static final int NONE = -1;
  private static final int HIDDEN = -1000000;

  /** All that acts change. */
  static final class Now implements Cloneable {
    int at, bread, day, nights, out;
    boolean[] has;
    int[] knots;
    int[][] heard;
    List<int[]> log = new ArrayList<>();

    Now copy() {
      Now c = new Now();
      c.at = at;
      c.bread = bread;
      c.day = day;
      c.nights = nights;
      c.out = out;
      c.has = has.clone();
      c.knots = knots.clone();
      c.heard = new int[heard.length][];
      for (int i = 0; i < heard.length; i++) c.heard[i] = heard[i].clone();
      c.log = new ArrayList<>(log);
      return c;
    }
  }

  private String tape = "";
  private int houses = 0, tales = 0, often = 0;
  private int[] known, curious, warm, length, toldKnots, truth;
  private Now now = null, image = null;
  private List<Now> acts = new ArrayList<>();
  private final List<ToIntFunction<int[]>> laws = new ArrayList<>();
  private int holds = NONE, whys = 2;
  private final int[] status = new int[5];
  private List<int[]> seen = new ArrayList<>();

  int feed(int a, int b, int c, int d, int e) {
    StringBuilder more = new StringBuilder(tape);
    for (int w : new int[] {a, b, c, d, e}) {
      for (int i = 3; i >= 0; i--) {
        char ch = (char) (w >> 8 * i & 255);
        if (ch != 0) more.append(ch);
      }
    }
    if (more.length() > 240) return NONE;
    tape = more.toString();
    return tape.length();
  }

  boolean end(int n) {
    if (n < 0 || n > tape.length()) return false;
    tape = tape.substring(0, n);
    return true;
  }

  int fault(int sort) {
    if (sort == 0) return new CoastText(tape).fault;
    if (sort == 1) return new LawText(tape).fault;
    return -2;
  }

  int text(int sort) {
    if (sort == 0) {
      CoastText t = new CoastText(tape);
      if (t.fault != NONE) return NONE;
      houses = t.h.size();
      tales = t.t.size();
      often = t.s[3];
      known = column(t.h, 0);
      curious = column(t.h, 1);
      warm = column(t.h, 2);
      length = column(t.t, 0);
      toldKnots = column(t.t, 1);
      truth = column(t.t, 2);
      now = new Now();
      now.bread = t.s[0];
      now.at = t.s[2];
      now.has = new boolean[tales];
      for (int i = 0; i < tales; i++) now.has[i] = (t.s[1] & 1 << i) != 0;
      now.knots = toldKnots.clone();
      now.heard = new int[houses][tales];
      for (int i = 0; i < houses; i++) for (int j = 0; j < tales; j++) now.heard[i][j] = known[i] >> j & 1;
      acts = new ArrayList<>();
      image = null;
      seen = new ArrayList<>();
      tape = "";
      return houses;
    }
    if (sort == 1 && laws.size() < 4) {
      LawText t = new LawText(tape);
      if (t.fault != NONE) return NONE;
      laws.add(t.law);
      tape = "";
      return laws.size() - 1;
    }
    return NONE;
  }

  private static int[] column(List<int[]> rows, int i) {
    return rows.stream().mapToInt(r -> r[i]).toArray();
  }

  private boolean isHouse(int h) {
    return h >= 0 && h < houses;
  }

  private boolean isTale(int t) {
    return t >= 0 && t < tales;
  }

  private int bits(boolean[] b) {
    int r = 0;
    for (int i = 0; i < b.length; i++) if (b[i]) r += 1 << i;
    return r;
  }

  private int worth(int h, int t, int heard, int knots) {
    int w;
    if (holds == NONE) {
      w = knots + curious[h] / 3 - heard;
      if (heard < often) w += length[t];
      if (truth[t] == 1) w += 2;
    } else {
      w = laws.get(holds).applyAsInt(new int[] {length[t], knots, curious[h], heard, warm[h], truth[t]});
    }
    return w < 0 ? 0 : w > 20 ? 20 : w;
  }

  private int worth(Now n, int h, int t) {
    return worth(h, t, n.heard[h][t], n.knots[t]);
  }

  int house(int h, int what) {
    if (!isHouse(h) || what < 0 || what > 2) return NONE;
    if (what == 1) return curious[h];
    if (what == 2) return warm[h];
    int r = 0;
    for (int t = 0; t < tales; t++) if (now.heard[h][t] > 0) r |= 1 << t;
    return r;
  }

  int tale(int t, int what) {
    if (!isTale(t) || what < 0 || what > 3) throw new NoSuchElementException();
    return new int[] {length[t], now.knots[t], truth[t], now.has[t] ? 1 : 0}[what];
  }

  int heard(int h, int t) {
    return isHouse(h) && isTale(t) ? now.heard[h][t] : NONE;
  }

  int nights(int h, int t) {
    return isHouse(h) && isTale(t) ? worth(now, h, t) : NONE;
  }

  boolean law(int law) {
    if (law < -1 || law >= laws.size()) return false;
    holds = law;
    return true;
  }

  private int refuse(int i) {
    status[i]++;
    return NONE;
  }

  private void act() {
    acts.add(now.copy());
    if (acts.size() > 40) acts.remove(0);
  }

  /** False if the days do not do. */
  private boolean doTell(Now n, int t, boolean days) {
    int w = worth(n, n.at, t);
    int d = w == 0 ? 1 : w;
    if (days && n.day + d > 9999) return false;
    n.day += d;
    n.nights += w;
    n.heard[n.at][t] = Math.min(99, n.heard[n.at][t] + 1);
    n.bread = Math.min(999, n.bread + w / 3);
    if (w == 0) {
      n.out++;
      n.bread = Math.max(0, n.bread - 1);
    }
    n.log.add(new int[] {n.at, t, w});
    if (n.log.size() > 60) n.log.remove(0);
    return true;
  }

  int tells(int t) {
    if (!isTale(t)) return refuse(0);
    if (!now.has[t]) return refuse(2);
    int w = worth(now, now.at, t);
    if (!doTell(now.copy(), t, true)) return refuse(4);
    act();
    doTell(now, t, true);
    return w;
  }

  private void doGo(Now n, int h) {
    int d = Math.abs(h - n.at);
    n.day += d;
    n.bread -= d;
    n.at = h;
  }

  int goes(int h) {
    if (!isHouse(h)) return refuse(0);
    if (h == now.at) return refuse(2);
    int d = Math.abs(h - now.at);
    if (now.bread < d) return refuse(3);
    if (now.day + d > 9999) return refuse(4);
    act();
    doGo(now, h);
    return d;
  }

  int learns(int t) {
    if (!isTale(t)) return refuse(0);
    if (now.has[t] || now.heard[now.at][t] == 0) return refuse(2);
    if (now.bread == 0) return refuse(3);
    if (now.day + 2 > 9999) return refuse(4);
    act();
    now.day += 2;
    now.bread--;
    now.has[t] = true;
    return Integer.bitCount(bits(now.has));
  }

  int ties(int t) {
    if (!isTale(t)) return refuse(0);
    if (!now.has[t] || now.knots[t] == 9) return refuse(2);
    if (now.bread < 2) return refuse(3);
    act();
    now.bread -= 2;
    return ++now.knots[t];
  }

  int rest() {
    if (now == null) return refuse(0);
    boolean cold = warm[now.at] < 5;
    if (cold && now.bread == 0) return refuse(3);
    if (now.day + 1 > 9999) return refuse(4);
    act();
    now.day++;
    if (cold) now.bread--;
    return now.bread;
  }

  int give(int n) {
    if (now == null) return refuse(0);
    if (n < 1 || n > 50 || now.bread + n > 999) return refuse(1);
    act();
    return now.bread += n;
  }

  boolean whys(int v) {
    if (v < 0 || v > 9 || v == whys) return false;
    whys = v;
    return true;
  }

  int years(int n, long seed) {
    if (now == null || n < 1 || n > 60) return NONE;
    java.math.BigInteger x = java.math.BigInteger.valueOf(seed);
    for (int i = 0; i < n; i++) {
      act();
      x = turn(x);
      int h = draw(x, houses);
      if (h != now.at && Math.abs(h - now.at) <= now.bread && now.day + Math.abs(h - now.at) <= 9999) doGo(now, h);
      x = turn(x);
      int t = draw(x, tales);
      if (now.has[t]) doTell(now, t, true);
      x = turn(x);
      if (draw(x, 10) < whys) now.bread = Math.min(999, now.bread + 3);
    }
    return now.day;
  }

  private static java.math.BigInteger turn(java.math.BigInteger x) {
    return x.multiply(new java.math.BigInteger("6364136223846793005"))
        .add(new java.math.BigInteger("1442695040888963407"))
        .mod(java.math.BigInteger.ONE.shiftLeft(64));
  }

  private static int draw(java.math.BigInteger x, int j) {
    return x.shiftRight(33).mod(java.math.BigInteger.valueOf(j)).intValue();
  }

  int status(int what) {
    return what < 0 || what > 4 ? NONE : status[what];
  }

  int undo() {
    if (acts.isEmpty()) return NONE;
    now = acts.remove(acts.size() - 1);
    return acts.size();
  }

  int log(int i, int what) {
    if (now == null || i < 0 || i >= now.log.size() || what < 0 || what > 2) return NONE;
    return now.log.get(now.log.size() - 1 - i)[what];
  }

  private int bestIn(Now n, int h) {
    int b = NONE;
    for (int t = 0; t < tales; t++) if (n.has[t] && (b == NONE || worth(n, h, t) > worth(n, h, b))) b = t;
    return b;
  }

  int best(int h, int what) {
    if (!isHouse(h) || what < 0 || what > 1) return NONE;
    int b = bestIn(now, h);
    return b == NONE || what == 0 ? b : worth(now, h, b);
  }

  int two(int what) {
    if (now == null || what < 0 || what > 1) return NONE;
    int row = NONE, most = NONE;
    for (int r = 0; r < 10000; r++) {
      Now n = now.copy();
      int[] d = {r / 1000, r / 100 % 10, r / 10 % 10, r % 10};
      boolean can = true;
      for (int i = 0; i < 4 && can; i += 2) {
        can = isHouse(d[i]) && isTale(d[i + 1]) && now.has[d[i + 1]] && Math.abs(d[i] - n.at) <= n.bread;
        if (can) {
          doGo(n, d[i]);
          doTell(n, d[i + 1], false);
        }
      }
      if (can && n.nights - now.nights > most) {
        most = n.nights - now.nights;
        row = r;
      }
    }
    return what == 0 ? row : most;
  }

  private int placesRow, placesSum;

  int places(int what) {
    if (now == null || what < 0 || what > 1) return NONE;
    placesSum = NONE;
    tryPlaces(0, new boolean[tales], 0, 0);
    return what == 0 ? placesRow : placesSum;
  }

  private void tryPlaces(int h, boolean[] used, int row, int sum) {
    if (h == houses) {
      if (sum > placesSum || sum == placesSum && row < placesRow) {
        placesSum = sum;
        placesRow = row;
      }
      return;
    }
    tryPlaces(h + 1, used, row * 10 + 9, sum);
    for (int t = 0; t < tales; t++) {
      if (now.has[t] && !used[t]) {
        used[t] = true;
        tryPlaces(h + 1, used, row * 10 + t, sum + worth(now, h, t));
        used[t] = false;
      }
    }
  }

  int fewest(int v) {
    if (now == null || v < 1 || v > 20) return NONE;
    int found = NONE;
    for (int set = (1 << tales) - 1; set >= 0; set--) {
      boolean all = true;
      for (int h = 0; h < houses; h++) {
        boolean one = false;
        for (int t = 0; t < tales; t++) one |= (set & 1 << t) != 0 && worth(now, h, t) >= v;
        all &= one;
      }
      if (all && (found == NONE || Integer.bitCount(set) <= Integer.bitCount(found))) found = set;
    }
    return found;
  }

  int seen(int h, int v, boolean is) {
    if (!isHouse(h) || v < 0 || v > 20 || seen.size() == 10) return NONE;
    seen.add(new int[] {h, v, is ? 1 : 0});
    return seen.size();
  }

  private int asTold(int h, int t) {
    return worth(h, t, known[h] >> t & 1, toldKnots[t]);
  }

  private List<Integer> fitting() {
    List<Integer> r = new ArrayList<>();
    for (int t = 0; t < tales; t++) {
      int tale = t;
      if (seen.stream().allMatch(s -> (s[2] == 1) == (asTold(s[0], tale) >= s[1]))) r.add(t);
    }
    return r;
  }

  int told(int i) {
    if (now == null) return NONE;
    List<Integer> f = fitting();
    if (i == NONE) return f.size();
    return i < 0 || i >= f.size() ? NONE : f.get(i);
  }

  int ask(int v) {
    if (now == null || v < 0 || v > 20 || fitting().isEmpty()) return NONE;
    int found = 0, least = 99;
    for (int h = houses - 1; h >= 0; h--) {
      int house = h;
      int more = (int) fitting().stream().filter(t -> asTold(house, t) >= v).count();
      int apart = Math.abs(more - (fitting().size() - more));
      if (apart <= least) {
        least = apart;
        found = h;
      }
    }
    return found;
  }

  private int[] gains(int h, int x, int y) {
    int a = isTale(x) ? worth(now, h, x) : 0;
    int b = 0;
    if (isTale(y)) b = worth(h, y, Math.min(99, now.heard[h][y] + (x == y ? 1 : 0)), now.knots[y]);
    return new int[] {a - (b > a ? 3 : 0) - (isTale(x) ? 0 : 5), b - (a > b ? 3 : 0) - (isTale(y) ? 0 : 5)};
  }

  int game(int h, int x, int y, int what) {
    if (!isHouse(h) || x < 0 || x > 5 || y < 0 || y > 5 || what < 0 || what > 1) return HIDDEN;
    return gains(h, x, y)[what];
  }

  int rests(int h, int i) {
    if (!isHouse(h)) return NONE;
    List<Integer> r = new ArrayList<>();
    for (int x = 0; x < tales; x++) {
      for (int y = 0; y < tales; y++) {
        int[] g = gains(h, x, y);
        boolean quiet = true;
        for (int z = 0; z < 6; z++) quiet &= gains(h, z, y)[0] <= g[0] && gains(h, x, z)[1] <= g[1];
        if (quiet) r.add(10 * x + y);
      }
    }
    if (i == NONE) return r.size();
    return i < 0 || i >= r.size() ? NONE : r.get(i);
  }

  int odds(int h, int t, int chance, int v) {
    if (!isHouse(h) || !isTale(t) || chance < 0 || chance > 100 || v < 0 || v > 20) return NONE;
    // By the nights that he stays: stays[i] parts go when he has stayed i.
    int n = worth(now, h, t);
    long[] stays = new long[21];
    long left = 1000000000L;
    for (int i = 1; i < n; i++) {
      stays[i] = left * chance / 100;
      left -= stays[i];
    }
    stays[n] += left;
    return (int) Arrays.stream(stays, v, 21).sum();
  }

  int reach() {
    if (now == null) return NONE;
    int r = 0;
    for (int h = 0; h < houses; h++) if (h == now.at || Math.abs(h - now.at) <= now.bread) r |= 1 << h;
    return r;
  }

  int shares(int t, int c) {
    return isTale(t) && c >= 0 && c <= 999 ? c * length[t] / Arrays.stream(length).sum() : NONE;
  }

  int fresh(int h, int what) {
    if (!isHouse(h) || what < 0 || what > 1) return NONE;
    int r = 0;
    for (int t = 0; t < tales; t++) {
      boolean heard = now.heard[h][t] > 0;
      if (what == 0 ? now.has[t] && !heard : !now.has[t] && heard) r |= 1 << t;
    }
    return r;
  }

  int where(int t, int v) {
    if (!isTale(t) || v < 1 || v > 20) return NONE;
    int r = 0;
    for (int h = 0; h < houses; h++) if (worth(now, h, t) >= v) r |= 1 << h;
    return r;
  }

  int round(int what) {
    if (now == null || what < 0 || what > 2) return NONE;
    List<Integer> way = new ArrayList<>();
    for (int h = now.at; h < houses; h++) way.add(h);
    for (int h = houses - 2; h >= 0; h--) way.add(h);
    Now n = now.copy();
    int told = 0;
    for (int i = 0; i < way.size(); i++) {
      if (i > 0) {
        if (n.bread < 1) break;
        doGo(n, way.get(i));
      }
      int b = bestIn(n, n.at);
      if (b != NONE) {
        doTell(n, b, false);
        told++;
      }
    }
    return what == 0 ? told : what == 1 ? n.nights - now.nights : n.bread;
  }

  private static int firstHighest(int[] row) {
    int most = Arrays.stream(row).max().getAsInt();
    for (int i = 0; ; i++) if (row[i] == most) return i;
  }

  int most(int what) {
    if (now == null) return NONE;
    int[] sums = new int[houses];
    for (int h = 0; h < houses; h++) for (int t = 0; t < tales; t++) if (now.has[t]) sums[h] += worth(now, h, t);
    switch (what) {
      case 0: return firstHighest(length);
      case 1: return firstHighest(now.knots);
      case 2: return firstHighest(curious);
      case 3: return firstHighest(warm);
      case 4: return firstHighest(Arrays.stream(sums).map(s -> -s).toArray());
      case 5: {
        int r = 0;
        for (int t = 0; t < tales; t++) r |= truth[t] << t;
        return r;
      }
      case 6: {
        int r = (1 << tales) - 1;
        for (int h = 0; h < houses; h++) r &= house(h, 0);
        return r;
      }
      case 7: return Arrays.stream(sums).sum();
      case 8: return (int) Arrays.stream(sums).filter(s -> s > 0).count();
      default: return NONE;
    }
  }

  int image() {
    if (now == null) return NONE;
    image = now.copy();
    return now.day;
  }

  int back() {
    if (image == null) return NONE;
    now = image.copy();
    acts.clear();
    return now.day;
  }

  int count(int what) {
    boolean none = now == null;
    switch (what) {
      case 0: return houses;
      case 1: return tales;
      case 2: return laws.size();
      case 3: return tape.length();
      case 4: return holds;
      case 5: return none ? 0 : now.day;
      case 6: return none ? 0 : now.at;
      case 7: return none ? 0 : bits(now.has);
      case 8: return none ? 0 : now.bread;
      case 9: return none ? 0 : now.nights;
      case 10: return none ? 0 : now.out;
      case 11: return whys;
      case 12: return seen.size();
      case 13: return none ? 0 : now.log.size();
      case 14: return acts.size();
      default: return HIDDEN;
    }
  }

  /** A coast cut at its signs first, blanks aside, then looked at sign by sign. */
  private static final class CoastText {
    int fault = NONE;
    int[] s = {20, 63, 0, 1};
    final List<int[]> h = new ArrayList<>();
    final List<int[]> t = new ArrayList<>();

    CoastText(String text) {
      int rules = 0;
      char kind = 0, letter = 0;
      int[] row = null;
      String there = "";
      // What may come: 0 a clause's letter, 1 an item's letter or ;, 2 a number.
      int may = 0;
      for (int i = 0; i < text.length(); i++) {
        char c = text.charAt(i);
        if (c == ' ') continue;
        if (may == 0) {
          boolean ok = c == 's' && rules == 0 || c == 'h' && h.size() < 6 || c == 't' && t.size() < 6;
          if (!ok) {
            fault = i;
            return;
          }
          kind = c;
          there = "";
          if (c == 's') {
            rules = 1;
            row = s;
          } else {
            row = c == 'h' ? new int[] {0, 3, 2} : new int[] {4, 2, 0};
            (c == 'h' ? h : t).add(row);
          }
          may = 1;
        } else if (may == 1) {
          if (c == ';') {
            may = 0;
          } else {
            String letters = kind == 's' ? "bmao" : kind == 'h' ? "kcw" : "lkr";
            if (letters.indexOf(c) < 0 || there.indexOf(c) >= 0) {
              fault = i;
              return;
            }
            there += c;
            letter = c;
            may = 2;
          }
        } else {
          int end = i;
          while (end < text.length() && Character.digit(text.charAt(end), 10) >= 0 && text.charAt(end) < 128) end++;
          if (end == i || end - i > 2) {
            fault = end == i ? i : i + 2;
            return;
          }
          int v = Integer.parseInt(text.substring(i, end));
          String of = "" + kind + letter;
          int high = of.equals("sb") ? 99 : of.equals("sm") || of.equals("hk") ? 63 : of.equals("sa") ? 5 : of.equals("tr") ? 1 : 9;
          if (v > high || of.equals("tl") && v == 0) {
            fault = end - 1;
            return;
          }
          row[(kind == 's' ? "bmao" : kind == 'h' ? "kcw" : "lkr").indexOf(letter)] = v;
          i = end - 1;
          may = 1;
        }
      }
      if (may != 1 || h.size() < 2 || t.isEmpty() || s[2] >= h.size()) fault = text.length();
    }
  }

  /** Tries a condition and a plain sum for each clause; the farthest sign that none of the ways takes is at fault. */
  private static final class LawText {
    int fault = NONE;
    ToIntFunction<int[]> law;
    private final String text;
    private int at = 0;
    private int farthest = 0;

    private static final class No extends Exception {
      private static final long serialVersionUID = 1L;
    }

    LawText(String text) {
      this.text = text;
      List<ToIntFunction<int[]>> conditions = new ArrayList<>();
      List<ToIntFunction<int[]>> sums = new ArrayList<>();
      try {
        do {
          need('y');
          need(':');
          int start = at;
          ToIntFunction<int[]> condition = v -> 1;
          ToIntFunction<int[]> sum;
          try {
            condition = condition(0);
            need('?');
            sum = sum(0);
          } catch (No no) {
            at = start;
            condition = v -> 1;
            sum = sum(0);
          }
          conditions.add(condition);
          sums.add(sum);
        } while (has(';'));
        blanks();
        if (at < text.length()) throw no();
      } catch (No no) {
        fault = farthest;
      }
      law = v -> {
        for (int i = 0; i < sums.size(); i++) if (conditions.get(i).applyAsInt(v) == 1) return sums.get(i).applyAsInt(v);
        return 0;
      };
    }

    private No no() {
      blanks();
      farthest = Math.max(farthest, at);
      return new No();
    }

    private void blanks() {
      while (at < text.length() && text.charAt(at) == ' ') at++;
      farthest = Math.max(farthest, at);
    }

    private boolean has(char c) {
      blanks();
      if (at < text.length() && text.charAt(at) == c) {
        at++;
        return true;
      }
      return false;
    }

    private void need(char c) throws No {
      if (!has(c)) throw no();
    }

    private int in(int depth, char c) throws No {
      if (depth == 6) {
        at--;
        throw no();
      }
      return depth + 1;
    }

    private ToIntFunction<int[]> condition(int depth) throws No {
      ToIntFunction<int[]> r = truth(depth);
      while (has('|')) {
        ToIntFunction<int[]> a = r, b = truth(depth);
        r = v -> a.applyAsInt(v) == 1 || b.applyAsInt(v) == 1 ? 1 : 0;
      }
      return r;
    }

    private ToIntFunction<int[]> truth(int depth) throws No {
      ToIntFunction<int[]> r = unit(depth);
      while (has('&')) {
        ToIntFunction<int[]> a = r, b = unit(depth);
        r = v -> a.applyAsInt(v) == 1 && b.applyAsInt(v) == 1 ? 1 : 0;
      }
      return r;
    }

    private ToIntFunction<int[]> unit(int depth) throws No {
      if (has('!')) {
        ToIntFunction<int[]> a = unit(in(depth, '!'));
        return v -> 1 - a.applyAsInt(v);
      }
      if (has('(')) {
        ToIntFunction<int[]> a = condition(in(depth, '('));
        need(')');
        return a;
      }
      ToIntFunction<int[]> a = sum(depth);
      int kind = has('=') ? 0 : has('<') ? -1 : has('>') ? 1 : 2;
      if (kind == 2) throw no();
      ToIntFunction<int[]> b = sum(depth);
      return v -> Integer.compare(a.applyAsInt(v), b.applyAsInt(v)) == kind ? 1 : 0;
    }

    private static int held(long v) {
      return (int) Math.min(1000000, Math.max(-1000000, v));
    }

    private ToIntFunction<int[]> sum(int depth) throws No {
      ToIntFunction<int[]> r = term(depth);
      while (true) {
        ToIntFunction<int[]> a = r;
        if (has('+')) {
          ToIntFunction<int[]> b = term(depth);
          r = v -> held((long) a.applyAsInt(v) + b.applyAsInt(v));
        } else if (has('-')) {
          ToIntFunction<int[]> b = term(depth);
          r = v -> held((long) a.applyAsInt(v) - b.applyAsInt(v));
        } else {
          return r;
        }
      }
    }

    private ToIntFunction<int[]> term(int depth) throws No {
      ToIntFunction<int[]> r = atom(depth);
      while (true) {
        ToIntFunction<int[]> a = r;
        if (has('*')) {
          ToIntFunction<int[]> b = atom(depth);
          r = v -> held((long) a.applyAsInt(v) * b.applyAsInt(v));
        } else if (has('/')) {
          ToIntFunction<int[]> b = atom(depth);
          r = v -> b.applyAsInt(v) == 0 ? 0 : held((long) a.applyAsInt(v) / b.applyAsInt(v));
        } else {
          return r;
        }
      }
    }

    private ToIntFunction<int[]> atom(int depth) throws No {
      if (has('[')) {
        ToIntFunction<int[]> a = sum(in(depth, '['));
        need(']');
        return a;
      }
      blanks();
      if (at == text.length()) throw no();
      int i = "lkcnwr".indexOf(text.charAt(at));
      if (i >= 0) {
        at++;
        return v -> v[i];
      }
      int end = at;
      while (end < text.length() && text.charAt(end) >= '0' && text.charAt(end) <= '9') end++;
      if (end == at) throw no();
      if (end > at + 4) {
        at += 4;
        throw no();
      }
      int value = Integer.parseInt(text.substring(at, end));
      at = end;
      return v -> value;
    }
  }
}
