import java.util.Random;

/**
 * What must hold between the answers, whatever is built: no second reading of the document is asked, the class is held
 * against itself. Objects are built by a seed, so that the same one can be built again as often as it is wanted.
 */
public final class LawsTest {
  private static final int MOST_CALLS = 512;
  private static final int LAST_HOUR = 10000;
  private static final int FULL = -1000000004;
  private static final int BEYOND = -1000000001;

  private static int wrong = 0;
  // How often there was something to see: laws of nothing hold always.
  private static int somethingGround = 0;
  private static int somethingRan = 0;
  private static int somethingBest = 0;

  private static void due(String what, long seed, long got, long want) {
    if (got != want) {
      wrong++;
      if (wrong < 30) {
        System.out.println("seed " + seed + ": " + what + " answered " + got + ", due is " + want);
      }
    }
  }

  public static void main(String[] args) {
    for (int seed = 0; seed < 150; seed++) {
      waterIsKept(seed);
      grainIsKept(seed);
      hoursBySteps(seed);
    }
    for (int seed = 0; seed < 300; seed++) {
      aheadIsWhatComes(seed);
      numbersThatComeTrue(seed);
      runningIsWhatRuns(seed);
    }
    for (int seed = 0; seed < 1500; seed++) {
      bestOfAllSets(seed);
    }
    lookingChangesNothing();
    if (somethingGround < 75 || somethingRan < 1500 || somethingBest < 350) {
      wrong++;
      System.out.println("too little to see: " + somethingGround + ", " + somethingRan + ", " + somethingBest);
    }
    System.out.println(wrong == 0 ? "all laws hold" : wrong + " times a law does not hold");
    if (wrong != 0) {
      System.exit(1);
    }
  }

  // ---- what is built

  /** Makes the calls and counts them, as nothing is promised behind the 512th. */
  private static final class Built {
    final TideMill x = new TideMill();
    final Random r;
    int[] draws = new int[12];
    int calls = 0;

    Built(long seed, boolean small) {
      r = new Random(104729L * seed + 17);
      tides(small);
      ponds(small);
      mills(small);
    }

    TideMill ask() {
      calls++;
      if (calls > MOST_CALLS) {
        throw new IllegalStateException("more than 512 calls of one object");
      }
      return x;
    }

    int from(int least, int most) {
      return least + r.nextInt(most - least + 1);
    }

    private void tides(boolean small) {
      int round = small ? from(2, 6) : from(1, 24);
      ask().round(round);
      for (int place = 0; place < round; place++) {
        ask().height(place, small ? from(0, 5) : from(0, 200));
      }
    }

    private void ponds(boolean small) {
      int ponds = from(1, 4);
      for (int p = 0; p < ponds; p++) {
        int area = small ? from(1, 3) : from(1, 100);
        int bank = small ? from(4, 9) : from(1, 250);
        ask().pond(area, bank, small ? from(0, 3) : from(0, 200));
        ask().gate(p, from(0, 2));
        ask().water(p, from(0, area * bank));
      }
      for (int c = 0; c < 4 && ponds > 1; c++) {
        int a = from(0, ponds - 1);
        ask().channel(a, (a + from(1, ponds - 1)) % ponds, small ? from(0, 2) : from(0, 200));
      }
    }

    private void mills(boolean small) {
      int ponds = ask().count(0);
      int mills = from(1, 4);
      for (int m = 0; m < mills; m++) {
        int kind = from(0, 2);
        int keeps = small ? from(0, 3) : from(0, r.nextBoolean() ? 40 : 250);
        ask().mill(kind, from(0, ponds - 1), from(0, 9), keeps, kind == 1 ? from(0, 9) : 0);
        for (int s = from(1, 3); s > 0; s--) {
          int draw = small ? from(1, 4) : from(1, r.nextBoolean() ? 60 : 1000);
          int least = small ? from(1, 3) : from(1, r.nextBoolean() ? 20 : 200);
          int stone = ask().stone(m, least, draw, small ? from(1, 2) : from(1, 20), small ? from(1, 5) : from(1, 1000));
          draws[3 * m + stone] = draw;
          ask().on(m, stone, from(0, 4) == 0 ? 0 : 1);
        }
      }
    }

    /** Some more sacks, where there is room and the MILL takes them. */
    void sacks(int n) {
      int mills = ask().count(2);
      for (int i = 0; i < n; i++) {
        int hour = ask().count(3);
        ask().sack(from(0, mills - 1), from(0, 9), from(1, r.nextBoolean() ? 60 : 2000), hour + from(0, 200));
      }
    }

    /** Changes what the doors and STONES do, and the WATER. */
    void change() {
      int p = from(0, ask().count(0) - 1);
      int m = from(0, ask().count(2) - 1);
      ask().gate(p, from(0, 2));
      ask().on(m, 0, from(0, 1));
      ask().water(p, from(0, ask().about(p, 3) * ask().about(p, 4)));
    }
  }

  // ---- laws of what goes by, up to HOUR 10000

  // All WATER in PONDS came in or was put in, and neither went out, nor spilt, nor was drawn.
  private static void waterIsKept(int seed) {
    Built b = new Built(seed, seed % 3 == 2);
    for (int i = 1; i <= 100; i++) {
      b.ask().hours(100);
      if (i % 6 == 0) {
        b.change();
      }
      if (i % 5 == 0) {
        long has = b.ask().all(0);
        long got = (long) b.ask().all(1) - b.ask().all(2) - b.ask().all(3) - b.ask().all(4) + b.ask().all(5);
        due("23 all WATER in HOUR " + 100 * i, seed, got, has);
      }
    }
    due("23 the last HOUR", seed, b.ask().count(3), LAST_HOUR);
    long inPonds = 0;
    int ponds = b.ask().count(0);
    for (int p = 0; p < ponds; p++) {
      int water = b.ask().about(p, 1);
      inPonds += water;
      due("10 LEVEL of " + p, seed, b.ask().about(p, 0), water / b.ask().about(p, 3));
    }
    due("23 all(0)", seed, b.ask().all(0), inPonds);
  }

  // What was ground is IDLE, or FLOUR, or TOLL, or in sacks that still wait.
  private static void grainIsKept(int seed) {
    Built b = new Built(seed, seed % 3 == 2);
    long ground = 0;
    while (b.calls < 330 && b.ask().count(3) < LAST_HOUR) {
      b.sacks(b.from(0, 4));
      ground += b.ask().hours(Math.min(b.from(1, 100), LAST_HOUR - b.ask().count(3)));
    }
    somethingGround += ground > 0 ? 1 : 0;
    long told = 0;
    long takenUp = 0;
    long wait = 0;
    int mills = b.ask().count(2);
    for (int m = 0; m < mills; m++) {
      told += b.ask().told(m, 1);
      takenUp += b.ask().told(m, 5) + b.ask().told(m, 2);
      int sacks = b.ask().told(m, 7);
      wait += sacks;
      for (int i = 0; i < sacks; i++) {
        takenUp += b.ask().row(m, i, 1) - b.ask().row(m, i, 2);
      }
    }
    for (int c = 0; c < 10; c++) {
      takenUp += b.ask().flour(c);
    }
    due("19 what all ground", seed, told, ground);
    due("17 and where it is", seed, takenUp, ground);
    due("26 sacks that wait", seed, b.ask().count(4), wait);
  }

  // As many HOURS are the same, however many of them a call lets go by.
  private static void hoursBySteps(int seed) {
    Built one = new Built(seed, seed % 3 == 2);
    Built other = new Built(seed, seed % 3 == 2);
    one.sacks(20);
    other.sacks(20);
    long byOne = 0;
    long byOther = 0;
    for (int i = 0; i < 100; i++) {
      byOne += one.ask().hours(100);
    }
    int step = 37 + seed % 60;
    for (int left = LAST_HOUR; left > 0; left -= step) {
      byOther += other.ask().hours(Math.min(step, left));
    }
    due("19 by steps of " + step, seed, byOther, byOne);
    int ponds = one.ask().count(0);
    for (int p = 0; p < ponds; p++) {
      due("10 WATER of " + p, seed, other.ask().about(p, 1), one.ask().about(p, 1));
    }
    int mills = one.ask().count(2);
    for (int m = 0; m < mills; m++) {
      for (int what = 0; what < 10; what++) {
        due("17 told(" + m + ", " + what + ")", seed, other.ask().told(m, what), one.ask().told(m, what));
      }
    }
    for (int what = 0; what < 6; what++) {
      due("23 all(" + what + ")", seed, other.ask().all(what), one.ask().all(what));
    }
    due("19 no HOUR more", seed, one.ask().hours(1), FULL);
    due("19 nor here", seed, other.ask().hours(1), FULL);
  }

  // ---- laws of what is seen ahead

  private static void aheadIsWhatComes(int seed) {
    Built b = new Built(seed, seed % 2 == 1);
    int n = b.from(1, 48);
    int ponds = b.ask().count(0);
    int[] seen = new int[ponds];
    for (int p = 0; p < ponds; p++) {
      due("22 ahead(" + p + ", 0)", seed, b.ask().ahead(p, 0), b.ask().about(p, 0));
      seen[p] = b.ask().ahead(p, n);
    }
    b.ask().hours(n);
    for (int p = 0; p < ponds; p++) {
      due("22 ahead(" + p + ", " + n + ")", seed, seen[p], b.ask().about(p, 0));
    }
  }

  private static void numbersThatComeTrue(int seed) {
    Built b = new Built(seed, seed % 2 == 1);
    int pond = b.from(0, b.ask().count(0) - 1);
    int n = b.from(1, 24);
    int bad = b.from(0, n - 1);
    for (int i = 0; i < n; i++) {
      due("24 tell", seed, b.ask().tell(b.ask().ahead(pond, i + 1)), i + 1);
    }
    due("25 they come true", seed, b.ask().check(pond), 0);
    for (int i = 0; i < n; i++) {
      // Behind the first that isn't, others may be wrong, too.
      b.ask().tell(b.ask().ahead(pond, i + 1) + (i == bad || i > bad && b.from(0, 1) == 0 ? 1 : 0));
    }
    due("25 the first that doesn't", seed, b.ask().check(pond), 1 + bad);
    due("26 none wait", seed, b.ask().count(5), 0);
  }

  private static void runningIsWhatRuns(int seed) {
    Built b = new Built(seed, seed % 2 == 1);
    int mills = b.ask().count(2);
    for (int hour = 0; hour < 30; hour++) {
      int bits = b.ask().running();
      somethingRan += bits != 0 ? 1 : 0;
      long draw = 0;
      long cloth = 0;
      long clothWas = 0;
      for (int i = 0; i < 12; i++) {
        if ((bits >> i & 1) == 1) {
          draw += b.draws[i];
          // A MILL that isn't one of FULLING answers KIND, which is below 0.
          cloth += b.ask().as(i / 3, 2) >= 0 ? 1 : 0;
        }
      }
      for (int m = 0; m < mills; m++) {
        clothWas += b.ask().told(m, 6);
      }
      long drawnWas = b.ask().all(4);
      b.ask().hours(1);
      due("20 what they draw in HOUR " + hour, seed, b.ask().all(4) - drawnWas, draw);
      long clothIs = 0;
      for (int m = 0; m < mills; m++) {
        clothIs += b.ask().told(m, 6);
      }
      due("20 CLOTH in HOUR " + hour, seed, clothIs - clothWas, cloth);
      if (b.calls > 450) {
        break;
      }
    }
  }

  // Each set of HOURS is gone through for real, on an object of its own, the STONES set by hand.
  private static void bestOfAllSets(int seed) {
    Built b = new Built(seed, seed % 4 != 3);
    int mill = b.from(0, b.ask().count(2) - 1);
    if (b.ask().as(mill, 2) >= 0) {
      return; // of FULLING nothing tells what it grinds
    }
    int n = seed % 10 == 0 ? 8 : b.from(1, 5);
    int bestSet = 0;
    long most = -1;
    for (int set = 0; set < 1 << n; set++) {
      long ground = groundIn(seed, mill, n, set);
      int more = Integer.bitCount(set) - Integer.bitCount(bestSet);
      if (ground > most || ground == most && (more < 0 || more == 0 && set < bestSet)) {
        most = ground;
        bestSet = set;
      }
    }
    somethingBest += most > 0 ? 1 : 0;
    due("21 best(" + mill + ", " + n + ", 0)", seed, b.ask().best(mill, n, 0), bestSet);
    due("21 best(" + mill + ", " + n + ", 1)", seed, b.ask().best(mill, n, 1), most);
  }

  private static long groundIn(int seed, int mill, int n, int set) {
    Built b = new Built(seed, seed % 4 != 3);
    int stones = b.ask().told(mill, 8);
    int[] isOn = new int[stones];
    for (int s = 0; s < stones; s++) {
      isOn[s] = b.ask().on(mill, s, 0);
    }
    for (int i = 0; i < n; i++) {
      for (int s = 0; s < stones; s++) {
        b.ask().on(mill, s, (set >> i & 1) == 1 ? isOn[s] : 0);
      }
      b.ask().hours(1);
    }
    return b.ask().told(mill, 1);
  }

  // A run of 512 calls that goes up to HOUR 10000 among calls that only look on, and one of the HOURS alone.
  private static void lookingChangesNothing() {
    for (int seed = 0; seed < 40; seed++) {
      Built plain = new Built(seed, seed % 2 == 1);
      Built looked = new Built(seed, seed % 2 == 1);
      plain.sacks(15);
      looked.sacks(15);
      for (int i = 0; i < 100; i++) {
        due("19 hours " + i, seed, looked.ask().hours(100), plain.ask().hours(100));
        looked.ask().running();
        looked.ask().best(i % 4, 1 + i % 8, i % 2);
        looked.ask().ahead(i % 4, i % 49);
      }
      due("26 the HOUR", seed, looked.ask().count(3), LAST_HOUR);
      due("15 DUE before it", seed, looked.ask().sack(0, 0, 1, LAST_HOUR - 1), BEYOND);
      for (int what = 0; what < 6; what++) {
        due("23 all(" + what + ")", seed, looked.ask().all(what), plain.ask().all(what));
      }
      while (looked.calls < MOST_CALLS) {
        due("10 call " + looked.calls, seed, looked.ask().about(0, 1), plain.ask().about(0, 1));
      }
    }
  }
}
