import java.util.ArrayList;
import java.util.Arrays;
import java.util.List;
import java.util.Random;

/**
 * Runs of 512 calls drawn from a fixed seed, against a second, slower reading of the document that
 * goes through whole copies of the state wherever "nothing changes". Every third run goes on to HOUR 10000.
 */
public final class ModelTest {
  private static final int RUNS = 1500;
  private static final int CALLS = 512;
  private static final int LAST_HOUR = 10000;

  private enum Sort { WIDE, SMALL, LONG }

  private static int runsToTheEnd = 0;
  private static int checksThatHold = 0;

  public static void main(String[] args) {
    int wrong = 0;
    for (int run = 0; run < RUNS && wrong < 10; run++) {
      wrong += oneRun(run);
    }
    // The runs are of use only if they get where they are meant to.
    if (wrong == 0 && (runsToTheEnd < 100 || checksThatHold < 100)) {
      System.out.println("too few runs to HOUR 10000: " + runsToTheEnd + ", or checks that hold: " + checksThatHold);
      wrong++;
    }
    System.out.println(wrong == 0 ? "all runs agree with the model" : wrong + " runs do not agree");
    if (wrong != 0) {
      System.exit(1);
    }
  }

  private static int oneRun(int run) {
    Random random = new Random(7919L * run + 1);
    TideMill x = new TideMill();
    Model model = new Model();
    Sort sort = Sort.values()[run % 3];
    for (int i = 0; i < CALLS; i++) {
      Call call = rightNumber(random, model, Call.drawn(random, i, sort));
      int waiting = model.numbers.size();
      int got = call.on(x);
      int want = model.answer(call);
      if (got != want) {
        System.out.println("run " + run + ", call " + i + ": " + call + " answered " + got + ", the model " + want);
        return 1;
      }
      if (call.name().equals("check") && waiting > 1 && got == 0) checksThatHold++;
    }
    if (model.hour == LAST_HOUR) runsToTheEnd++;
    return 0;
  }

  /** Numbers drawn blindly are hardly ever LEVELS, so most are made to be those of POND 0. */
  private static Call rightNumber(Random r, Model model, Call call) {
    if (!call.name().equals("tell") || model.ponds.isEmpty() || r.nextInt(4) == 0) {
      return call;
    }
    Model then = model.copy();
    for (int i = 0; i <= model.numbers.size(); i++) then.goBy();
    return new Call("tell", new int[] {(int) then.level(0)});
  }

  private record Call(String name, int[] a) {
    private static final String[] BUILDING = {"pond", "pond", "channel", "mill", "mill", "stone", "stone", "sack"};
    private static final String[] ANY = {"round", "height", "tide", "pond", "gate", "water", "water", "channel",
      "widen", "about", "about", "mill", "as", "stone", "on", "on", "sack", "sack", "sack", "row", "row", "told",
      "told", "told", "told", "flour", "flour", "hours", "hours", "hours", "running", "running", "best", "best",
      "ahead", "all", "all", "tell", "tell", "tell", "tell", "check", "count", "found"};

    static Call drawn(Random r, int i, Sort sort) {
      String[] from = i < 40 ? BUILDING : ANY;
      String name = from[r.nextInt(from.length)];
      // So many calls, of up to 100 HOURS each, come to HOUR 10000 some way before the run ends.
      if (sort == Sort.LONG && i >= 40 && r.nextInt(5) < 2) name = "hours";
      int[] a = arguments(name, r);
      if (sort == Sort.SMALL) a = smaller(name, a);
      if (sort == Sort.LONG) a = longer(name, a, r);
      if (a.length > 0 && r.nextInt(25) == 0) {
        int[] odd = {-1, 0, 1, 5, 13, 101, 251, Integer.MIN_VALUE, Integer.MAX_VALUE};
        a[r.nextInt(a.length)] = odd[r.nextInt(odd.length)];
      }
      return new Call(name, a);
    }

    private static int[] arguments(String name, Random r) {
      switch (name) {
        case "round": return of(1 + r.nextInt(24));
        case "height": return of(r.nextInt(24), r.nextInt(201));
        case "tide": return of(r.nextInt(100));
        case "pond": return of(1 + r.nextInt(r.nextBoolean() ? 10 : 100), 1 + r.nextInt(250), r.nextInt(201));
        case "gate": return of(r.nextInt(4), r.nextInt(3));
        case "water": return of(r.nextInt(4), r.nextInt(r.nextBoolean() ? 500 : 10000));
        case "channel": return of(r.nextInt(4), r.nextInt(4), r.nextInt(201));
        case "widen": return of(r.nextInt(4), r.nextInt(201));
        case "about": return of(r.nextInt(4), r.nextInt(6));
        case "mill": return drawnMill(r);
        case "as": return of(r.nextInt(4), r.nextInt(3));
        case "stone": return of(r.nextInt(4), 1 + r.nextInt(40), 1 + r.nextInt(r.nextBoolean() ? 60 : 1000),
            1 + r.nextInt(20), 1 + r.nextInt(1000));
        case "on": return of(r.nextInt(4), r.nextInt(3), r.nextInt(2));
        case "sack": return of(r.nextInt(4), r.nextInt(3), 1 + r.nextInt(r.nextBoolean() ? 60 : 2000),
            r.nextInt(800));
        case "row": return of(r.nextInt(4), r.nextInt(6), r.nextInt(4));
        case "told": return of(r.nextInt(4), r.nextInt(10));
        case "flour": return of(r.nextInt(3));
        case "hours": return of(1 + r.nextInt(r.nextInt(40) == 0 ? 100 : 5));
        case "running": return of();
        case "best": return of(r.nextInt(4), 1 + r.nextInt(r.nextInt(8) == 0 ? 8 : 5), r.nextInt(2));
        case "ahead": return of(r.nextInt(4), r.nextInt(49));
        case "all": return of(r.nextInt(6));
        case "tell": return of(r.nextInt(120));
        case "check": return of(r.nextInt(3) > 0 ? 0 : r.nextInt(4));
        case "count": return of(r.nextInt(7));
        default: return of(1 + r.nextInt(5));
      }
    }

    /** Small numbers, with which several sets of HOURS are as good as one another. */
    private static int[] smaller(String name, int[] a) {
      switch (name) {
        case "round": return of(3 + a[0] % 4);
        case "height": return of(a[0] % 6, a[1] % 6);
        case "pond": return of(1 + a[0] % 3, 1 + a[1] % 9, a[2] % 4);
        case "water": return of(a[0], a[1] % 20);
        case "channel": return of(a[0], a[1], a[2] % 3);
        case "mill": return of(a[0], a[1], a[2], a[3] % 4, a[4]);
        case "stone": return of(a[0], 1 + a[1] % 3, 1 + a[2] % 4, 1 + a[3] % 2, 1 + a[4] % 5);
        case "sack": return of(a[0], a[1], 1 + a[2] % 40, a[3]);
        case "tell": return of(a[0] % 6);
        default: return a;
      }
    }

    /** Long HOURS, sacks that are DUE far ahead, and the whole breadth of RANKS, KEEPS and CUSTOMERS. */
    private static int[] longer(String name, int[] a, Random r) {
      switch (name) {
        case "hours": return of(r.nextInt(4) == 0 ? 1 + r.nextInt(5) : 100 - r.nextInt(20));
        case "tide": return of(r.nextInt(LAST_HOUR + 100));
        case "mill": return of(a[0], a[1], r.nextInt(10), r.nextInt(251), a[0] == 1 ? r.nextInt(10) : 0);
        case "stone": return of(a[0], 1 + r.nextInt(200), a[2], a[3], a[4]);
        case "sack": return of(a[0], r.nextInt(10), a[2], r.nextInt(LAST_HOUR + 2000));
        case "row": return of(a[0], r.nextInt(13), a[2]);
        case "flour": return of(r.nextInt(10));
        default: return a;
      }
    }

    private static int[] drawnMill(Random r) {
      int kind = r.nextInt(3);
      return of(kind, r.nextInt(2), r.nextInt(4), r.nextInt(60), kind == 1 ? r.nextInt(3) : 0);
    }

    private static int[] of(int... a) {
      return a;
    }

    int on(TideMill x) {
      switch (name) {
        case "round": return x.round(a[0]);
        case "height": return x.height(a[0], a[1]);
        case "tide": return x.tide(a[0]);
        case "pond": return x.pond(a[0], a[1], a[2]);
        case "gate": return x.gate(a[0], a[1]);
        case "water": return x.water(a[0], a[1]);
        case "channel": return x.channel(a[0], a[1], a[2]);
        case "widen": return x.widen(a[0], a[1]);
        case "about": return x.about(a[0], a[1]);
        case "mill": return x.mill(a[0], a[1], a[2], a[3], a[4]);
        case "as": return x.as(a[0], a[1]);
        case "stone": return x.stone(a[0], a[1], a[2], a[3], a[4]);
        case "on": return x.on(a[0], a[1], a[2]);
        case "sack": return x.sack(a[0], a[1], a[2], a[3]);
        case "row": return x.row(a[0], a[1], a[2]);
        case "told": return x.told(a[0], a[1]);
        case "flour": return x.flour(a[0]);
        case "hours": return x.hours(a[0]);
        case "running": return x.running();
        case "best": return x.best(a[0], a[1], a[2]);
        case "ahead": return x.ahead(a[0], a[1]);
        case "all": return x.all(a[0]);
        case "tell": return x.tell(a[0]);
        case "check": return x.check(a[0]);
        case "count": return x.count(a[0]);
        default: return x.found(a[0]);
      }
    }

    @Override public String toString() {
      return name + Arrays.toString(a);
    }
  }

  /** The state as plain rows of numbers, by the document's words. */
  private static final class Model {
    static final long LOW = -1000000000L;
    long round = 12;
    long hour = 0;
    long[] heights = new long[24];
    List<long[]> ponds = new ArrayList<>(); // area, bank, width, gate, water
    List<long[]> channels = new ArrayList<>(); // a, b, width
    List<long[]> mills = new ArrayList<>(); // kind, pond, rank, keeps, customer, ground, toll, done, late, idle, cloth
    List<List<long[]>> stones = new ArrayList<>(); // least, draw, rate, most, on
    List<List<long[]>> rows = new ArrayList<>(); // customer, amount, wants, due
    long[] flour = new long[10];
    long[] totals = new long[6];
    List<Integer> numbers = new ArrayList<>();
    long[] found = new long[6];
    long[][] ranInLastHour = new long[4][3]; // -1 if it did not run, else what it ground

    Model() {
      for (int place = 0; place < 24; place++) {
        long far = place < 6 ? 6 - place : place - 6;
        heights[place] = far > 10 ? 0 : 100 - 10 * far;
      }
    }

    Model copy() {
      Model m = new Model();
      m.round = round;
      m.hour = hour;
      m.heights = heights.clone();
      ponds.forEach(p -> m.ponds.add(p.clone()));
      channels.forEach(c -> m.channels.add(c.clone()));
      mills.forEach(c -> m.mills.add(c.clone()));
      for (int i = 0; i < mills.size(); i++) {
        List<long[]> s = new ArrayList<>();
        stones.get(i).forEach(stone -> s.add(stone.clone()));
        m.stones.add(s);
        List<long[]> row = new ArrayList<>();
        rows.get(i).forEach(sack -> row.add(sack.clone()));
        m.rows.add(row);
      }
      m.flour = flour.clone();
      m.totals = totals.clone();
      return m;
    }

    int answer(Call call) {
      long got = act(call.name(), call.a());
      if (got < LOW) {
        found[(int) (LOW - got)]++;
      }
      return (int) got;
    }

    static boolean in(long v, long from, long to) {
      return from <= v && v <= to;
    }

    boolean noPond(int p) {
      return !in(p, 0, ponds.size() - 1);
    }

    boolean noMill(int m) {
      return !in(m, 0, mills.size() - 1);
    }

    long level(int p) {
      return ponds.get(p)[4] / ponds.get(p)[0];
    }

    long tideNow() {
      return heights[(int) (hour % round)];
    }

    long act(String name, int[] a) {
      final long beyond = LOW - 1;
      final long full = LOW - 4;
      switch (name) {
        case "round": {
          if (!in(a[0], 1, 24)) return beyond;
          long was = round;
          round = a[0];
          return was;
        }
        case "height": {
          if (!in(a[0], 0, 23) || !in(a[1], 0, 200)) return beyond;
          long was = heights[a[0]];
          heights[a[0]] = a[1];
          return was;
        }
        case "tide": return a[0] < 0 ? beyond : heights[(int) (a[0] % round)];
        case "pond":
          if (!in(a[0], 1, 100) || !in(a[1], 1, 250) || !in(a[2], 0, 200)) return beyond;
          if (ponds.size() == 4) return full;
          ponds.add(new long[] {a[0], a[1], a[2], 1, 0});
          return ponds.size() - 1;
        case "gate": {
          if (noPond(a[0]) || !in(a[1], 0, 2)) return beyond;
          long was = ponds.get(a[0])[3];
          ponds.get(a[0])[3] = a[1];
          return was;
        }
        case "water": {
          if (noPond(a[0])) return beyond;
          long[] p = ponds.get(a[0]);
          if (!in(a[1], 0, p[0] * p[1])) return beyond;
          long was = p[4];
          p[4] = a[1];
          totals[5] += a[1] - was;
          return was;
        }
        case "channel":
          if (noPond(a[0]) || noPond(a[1]) || a[0] == a[1] || !in(a[2], 0, 200)) return beyond;
          if (channels.size() == 4) return full;
          channels.add(new long[] {a[0], a[1], a[2]});
          return channels.size() - 1;
        case "widen": {
          if (!in(a[0], 0, channels.size() - 1) || !in(a[1], 0, 200)) return beyond;
          long was = channels.get(a[0])[2];
          channels.get(a[0])[2] = a[1];
          return was;
        }
        case "about": {
          if (noPond(a[0]) || !in(a[1], 0, 5)) return beyond;
          long[] p = ponds.get(a[0]);
          long at = mills.stream().filter(m -> m[1] == a[0]).count();
          return new long[] {level(a[0]), p[4], p[3], p[0], p[1], at}[a[1]];
        }
        case "mill":
          if (!in(a[0], 0, 2) || noPond(a[1]) || !in(a[2], 0, 9) || !in(a[3], 0, 250)
              || !in(a[4], 0, a[0] == 1 ? 9 : 0)) return beyond;
          if (mills.size() == 4) return full;
          mills.add(new long[] {a[0], a[1], a[2], a[3], a[4], 0, 0, 0, 0, 0, 0});
          stones.add(new ArrayList<>());
          rows.add(new ArrayList<>());
          return mills.size() - 1;
        case "as": {
          if (noMill(a[0]) || !in(a[1], 0, 2)) return beyond;
          long kind = mills.get(a[0])[0];
          return a[1] == kind || a[1] == 0 ? mills.get(a[0])[2] : LOW - 5;
        }
        case "stone":
          if (noMill(a[0]) || !in(a[1], 1, 200) || !in(a[2], 1, 1000) || !in(a[3], 1, 20)
              || !in(a[4], 1, 1000)) return beyond;
          if (stones.get(a[0]).size() == 3) return full;
          stones.get(a[0]).add(new long[] {a[1], a[2], a[3], a[4], 1});
          return stones.get(a[0]).size() - 1;
        case "on": {
          if (noMill(a[0]) || !in(a[1], 0, stones.get(a[0]).size() - 1) || !in(a[2], 0, 1)) return beyond;
          long was = stones.get(a[0]).get(a[1])[4];
          stones.get(a[0]).get(a[1])[4] = a[2];
          return was;
        }
        case "sack":
          if (noMill(a[0]) || !in(a[1], 0, 9) || !in(a[2], 1, 2000) || a[3] < hour) return beyond;
          if (mills.get(a[0])[0] == 2) return LOW - 5;
          if (mills.get(a[0])[0] == 1 && mills.get(a[0])[4] != a[1]) return LOW - 3;
          if (rows.get(a[0]).size() == 12) return full;
          rows.get(a[0]).add(new long[] {a[1], a[2], a[2], a[3]});
          return rows.get(a[0]).size();
        case "row":
          if (noMill(a[0]) || !in(a[2], 0, 3)) return beyond;
          if (!in(a[1], 0, rows.get(a[0]).size() - 1)) return LOW - 2;
          return rows.get(a[0]).get(a[1])[a[2]];
        default: return actOnHours(name, a);
      }
    }

    long actOnHours(String name, int[] a) {
      final long beyond = LOW - 1;
      switch (name) {
        case "told": {
          if (noMill(a[0]) || !in(a[1], 0, 9)) return beyond;
          long[] m = mills.get(a[0]);
          return new long[] {level((int) m[1]) - tideNow(), m[5], m[6], m[7], m[8], m[9], m[10],
            rows.get(a[0]).size(), stones.get(a[0]).size(), m[2]}[a[1]];
        }
        case "flour": return in(a[0], 0, 9) ? flour[a[0]] : beyond;
        case "hours": {
          if (!in(a[0], 1, 100)) return beyond;
          if (hour + a[0] > LAST_HOUR) return LOW - 4;
          long sum = 0;
          for (int i = 0; i < a[0]; i++) sum += goBy();
          return sum;
        }
        case "running": {
          Model then = copy();
          then.goBy();
          long bits = 0;
          for (int m = 0; m < 4; m++) {
            for (int s = 0; s < 3; s++) {
              if (m < mills.size() && s < stones.get(m).size() && then.ranInLastHour[m][s] >= 0) bits += 1L << (3 * m + s);
            }
          }
          return bits;
        }
        case "best": return noMill(a[0]) || !in(a[1], 1, 8) || !in(a[2], 0, 1) ? beyond : best(a[0], a[1])[a[2]];
        case "ahead": {
          if (noPond(a[0]) || !in(a[1], 0, 48)) return beyond;
          Model then = copy();
          for (int i = 0; i < a[1]; i++) then.goBy();
          return then.level(a[0]);
        }
        case "all":
          if (!in(a[0], 0, 5)) return beyond;
          return a[0] == 0 ? ponds.stream().mapToLong(p -> p[4]).sum() : totals[a[0]];
        case "tell":
          if (numbers.size() == 24) return LOW - 4;
          numbers.add(a[0]);
          return numbers.size();
        case "check": {
          List<Integer> waited = numbers;
          numbers = new ArrayList<>();
          if (noPond(a[0])) return beyond;
          Model then = copy();
          for (int i = 0; i < waited.size(); i++) {
            then.goBy();
            if (then.level(a[0]) != waited.get(i)) return 1 + i;
          }
          return 0;
        }
        case "count":
          if (!in(a[0], 0, 6)) return beyond;
          return new long[] {ponds.size(), channels.size(), mills.size(), hour,
            rows.stream().mapToLong(List::size).sum(), numbers.size(), round}[a[0]];
        default: return in(a[0], 1, 5) ? found[a[0]] : beyond;
      }
    }

    long[] best(int mill, int n) {
      List<long[]> told = new ArrayList<>();
      for (int set = 0; set < 1 << n; set++) {
        Model then = copy();
        long ground = 0;
        for (int i = 0; i < n; i++) {
          for (int s = 0; s < stones.get(mill).size(); s++) {
            then.stones.get(mill).get(s)[4] = (set >> i & 1) == 1 ? stones.get(mill).get(s)[4] : 0;
          }
          then.goBy();
          for (long by : then.ranInLastHour[mill]) ground += Math.max(by, 0);
        }
        told.add(new long[] {set, ground});
      }
      told.sort((p, q) -> {
        if (p[1] != q[1]) return Long.compare(q[1], p[1]);
        int more = Integer.compare(Long.bitCount(p[0]), Long.bitCount(q[0]));
        return more != 0 ? more : Long.compare(p[0], q[0]);
      });
      return told.get(0);
    }

    long goBy() {
      long tide = tideNow();
      for (int i = 0; i < ponds.size(); i++) {
        long[] p = ponds.get(i);
        long level = level(i);
        if (p[3] != 0 && tide > level) {
          long in = Math.min(p[2] * (tide - level), p[0] * tide - p[4]);
          p[4] += in;
          totals[1] += in;
        } else if (p[3] == 2 && tide < level) {
          long out = Math.min(p[2] * (level - tide), p[4] - p[0] * tide);
          p[4] -= out;
          totals[2] += out;
        }
      }
      for (long[] c : channels) {
        long differ = level((int) c[0]) - level((int) c[1]);
        if (differ == 0) continue;
        long[] high = ponds.get((int) (differ > 0 ? c[0] : c[1]));
        long[] low = ponds.get((int) (differ > 0 ? c[1] : c[0]));
        long goes = Math.min(c[2] * Math.abs(differ), (high[4] * low[0] - low[4] * high[0]) / (high[0] + low[0]));
        high[4] -= goes;
        low[4] += goes;
      }
      long sum = 0;
      for (long[] by : ranInLastHour) Arrays.fill(by, -1);
      for (int rank = 0; rank <= 9; rank++) {
        for (int m = 0; m < mills.size(); m++) {
          if (mills.get(m)[2] == rank) sum += grindAt(m, tide);
        }
      }
      for (long[] p : ponds) {
        if (p[4] > p[0] * p[1]) {
          totals[3] += p[4] - p[0] * p[1];
          p[4] = p[0] * p[1];
        }
      }
      hour++;
      return sum;
    }

    long grindAt(int m, long tide) {
      long[] mill = mills.get(m);
      long[] pond = ponds.get((int) mill[1]);
      long keeps = mills.stream().filter(o -> o[1] == mill[1] && o[2] < mill[2]).mapToLong(o -> o[3]).max().orElse(0);
      long sum = 0;
      for (int s = 0; s < stones.get(m).size(); s++) {
        long[] stone = stones.get(m).get(s);
        long head = level((int) mill[1]) - tide;
        if (stone[4] == 0 || head < stone[0] || pond[4] < stone[1] || pond[4] - stone[1] < pond[0] * keeps) continue;
        pond[4] -= stone[1];
        totals[4] += stone[1];
        long ground = Math.min(head * stone[2], stone[3]);
        ranInLastHour[m][s] = ground;
        if (mill[0] == 2) {
          mill[10]++;
        } else {
          sum += ground;
          mill[5] += ground;
          toRow(m, ground);
        }
      }
      return sum;
    }

    void toRow(int m, long ground) {
      long[] mill = mills.get(m);
      List<long[]> row = rows.get(m);
      long left = ground;
      while (left > 0 && !row.isEmpty()) {
        long[] sack = row.get(0);
        long part = Math.min(left, sack[2]);
        sack[2] -= part;
        left -= part;
        if (sack[2] > 0) break;
        row.remove(0);
        long toll = mill[0] == 1 ? 0 : sack[1] / 16;
        mill[6] += toll;
        mill[7]++;
        if (hour > sack[3]) mill[8]++;
        flour[(int) sack[0]] += sack[1] - toll;
      }
      mill[9] += left;
    }
  }
}
