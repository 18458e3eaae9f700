import java.util.ArrayList;
import java.util.List;
import java.util.function.Consumer;
import java.util.function.ToIntFunction;

/**
 * "Each act tells its findings in the order in which they are asked; one that answers a finding changes nothing but
 * what found() tells." Each refused call is made on one of two objects that are built alike; then all that can be
 * asked of the two is asked, and what many HOURS make of them: the one finding is all that may tell them apart.
 * In the same way "(Nothing changes.)" is held against the calls that only tell.
 */
public final class RefusalTest {
  private static final int LOW = -1000000000;
  private static final int BEYOND = LOW - 1;
  private static final int NONE = LOW - 2;
  private static final int STATE = LOW - 3;
  private static final int FULL = LOW - 4;
  private static final int KIND = LOW - 5;
  private static final int MIN = Integer.MIN_VALUE;
  private static final int MAX = Integer.MAX_VALUE;
  private static final int MOST_CALLS = 512;

  private static int wrong = 0;

  private static void fail(String what) {
    wrong++;
    System.out.println(what);
  }

  public static void main(String[] args) {
    scenes();
    beyondOnNothing();
    beyondOfTides();
    beyondOfPonds();
    beyondOfMills();
    beyondOfSacks();
    beyondOfHours();
    beyondOfWhatIsTold();
    kindStateNone();
    full();
    fullAtTheLastHour();
    beyondBeforeOthers();
    checkOfNoPond();
    checkOfAPond();
    callsThatOnlyTell();
    System.out.println(wrong == 0 ? "no refused call changes anything" : wrong + " answers are not as due");
    if (wrong != 0) {
      System.exit(1);
    }
  }

  // ---- the two objects

  /** Counts the calls, as nothing is promised behind the 512th. */
  private static final class Counted {
    final TideMill x = new TideMill();
    int calls = 0;

    int ask(ToIntFunction<TideMill> call) {
      calls++;
      if (calls > MOST_CALLS) {
        fail("the test itself makes more than " + MOST_CALLS + " calls");
      }
      return call.applyAsInt(x);
    }
  }

  private static Counted built(Consumer<Counted> scene) {
    Counted c = new Counted();
    scene.accept(c);
    return c;
  }

  private static void refused(String what, Consumer<Counted> scene, int finding, ToIntFunction<TideMill> call) {
    Counted plain = built(scene);
    Counted tried = built(scene);
    int answer = tried.ask(call);
    if (answer != finding) {
      fail(what + " answered " + answer + ", due is " + finding);
    }
    compare(what, findingsOf(plain, LOW - finding), findingsOf(tried, 0));
    compare(what, seen(plain), seen(tried));
  }

  private static void unchanged(String what, Consumer<Counted> scene, ToIntFunction<TideMill> call) {
    Counted plain = built(scene);
    Counted tried = built(scene);
    int answer = tried.ask(call);
    if (answer < LOW) {
      fail(what + " answered " + answer + ", and no finding is due");
    }
    compare(what, findingsOf(plain, 0), findingsOf(tried, 0));
    compare(what, seen(plain), seen(tried));
  }

  private static void compare(String what, List<int[]> plain, List<int[]> tried) {
    for (int i = 0; i < Math.max(plain.size(), tried.size()); i++) {
      if (i >= plain.size() || i >= tried.size()) {
        fail(what + ": there is more or less to be seen behind it");
        return;
      }
      if (plain.get(i)[1] != tried.get(i)[1]) {
        fail(what + ": behind it " + tried.get(i)[1] + " is told, not " + plain.get(i)[1] + " (sight "
            + plain.get(i)[0] + ")");
        return;
      }
    }
  }

  private static List<int[]> findingsOf(Counted c, int oneMoreOf) {
    List<int[]> all = new ArrayList<>();
    for (int k = 1; k <= 5; k++) {
      int of = k;
      all.add(new int[] {-k, c.ask(x -> x.found(of)) + (k == oneMoreOf ? 1 : 0)});
    }
    return all;
  }

  // ---- all that can be seen of an object

  private static void look(List<int[]> all, Counted c, ToIntFunction<TideMill> call) {
    all.add(new int[] {all.size(), c.ask(call)});
  }

  /** Nothing refused is asked before the end: what a refusal spoils would then be spoilt in both. */
  private static List<int[]> seen(Counted c) {
    List<int[]> all = new ArrayList<>();
    for (int what = 0; what <= 6; what++) {
      int w = what;
      look(all, c, x -> x.count(w));
    }
    int ponds = all.get(0)[1];
    int channels = all.get(1)[1];
    int mills = all.get(2)[1];
    lookAtPonds(all, c, ponds);
    for (int m = 0; m < mills; m++) {
      lookAtMill(all, c, m);
    }
    for (int customer = 0; customer <= 9; customer++) {
      int who = customer;
      look(all, c, x -> x.flour(who));
    }
    look(all, c, TideMill::running);
    if (ponds > 0) {
      look(all, c, x -> x.check(0));
    }
    lookAtHours(all, c, ponds, mills);
    lookAtWorks(all, c, channels, mills);
    lookAtKinds(all, c, mills);
    return all;
  }

  private static void lookAtPonds(List<int[]> all, Counted c, int ponds) {
    for (int what = 0; what <= 5; what++) {
      int w = what;
      look(all, c, x -> x.all(w));
      for (int p = 0; p < ponds; p++) {
        int of = p;
        look(all, c, x -> x.about(of, w));
      }
    }
    for (int p = 0; p < ponds; p++) {
      int of = p;
      look(all, c, x -> x.ahead(of, 7));
    }
  }

  private static void lookAtMill(List<int[]> all, Counted c, int m) {
    for (int what = 0; what <= 9; what++) {
      int w = what;
      look(all, c, x -> x.told(m, w));
    }
    look(all, c, x -> x.best(m, 3, 0));
    int sacks = c.ask(x -> x.told(m, 7));
    for (int i = 0; i < sacks; i++) {
      for (int what = 0; what <= 3; what++) {
        int at = i;
        int w = what;
        look(all, c, x -> x.row(m, at, w));
      }
    }
  }

  /** WIDTHS of GATES and the numbers of STONES are seen by what the HOURS make of them. */
  private static void lookAtHours(List<int[]> all, Counted c, int ponds, int mills) {
    int left = 10000 - c.ask(x -> x.count(3));
    for (int i = 0; i < Math.min(9, left); i++) {
      look(all, c, x -> x.hours(1));
      for (int p = 0; p < ponds; p++) {
        int of = p;
        look(all, c, x -> x.about(of, 1));
      }
      for (int m = 0; m < mills; m++) {
        int of = m;
        look(all, c, x -> x.told(of, 1));
      }
    }
  }

  private static void lookAtWorks(List<int[]> all, Counted c, int channels, int mills) {
    for (int i = 0; i < channels; i++) {
      int of = i;
      look(all, c, x -> x.widen(of, 0));
    }
    for (int m = 0; m < mills; m++) {
      int of = m;
      int stones = c.ask(x -> x.told(of, 8));
      for (int s = 0; s < stones; s++) {
        int stone = s;
        look(all, c, x -> x.on(of, stone, 1));
      }
    }
    look(all, c, x -> x.round(24));
    for (int hour = 0; hour < 24; hour++) {
      int h = hour;
      look(all, c, x -> x.tide(h));
    }
  }

  private static void lookAtKinds(List<int[]> all, Counted c, int mills) {
    for (int m = 0; m < mills; m++) {
      for (int kind = 0; kind <= 2; kind++) {
        int of = m;
        int k = kind;
        look(all, c, x -> x.as(of, k));
      }
    }
  }

  // ---- what the two are built like

  private static void nothing(Counted c) {
  }

  /** Some of each, but room for more: 2 PONDS, 1 CHANNEL, 3 MILLS (one of each kind), STONES, sacks, numbers. */
  private static void some(Counted c) {
    someWithoutNumbers(c);
    int level = c.ask(x -> x.ahead(0, 1));
    c.ask(x -> x.tell(level));
    c.ask(x -> x.tell(-7));
  }

  private static void someWithoutNumbers(Counted c) {
    c.ask(x -> x.round(5));
    c.ask(x -> x.height(2, 13));
    c.ask(x -> x.pond(10, 100, 20));
    c.ask(x -> x.pond(30, 90, 7));
    c.ask(x -> x.gate(1, 2));
    c.ask(x -> x.water(1, 2600));
    c.ask(x -> x.channel(0, 1, 3));
    c.ask(x -> x.mill(0, 1, 2, 10, 0));
    c.ask(x -> x.mill(1, 1, 1, 20, 5));
    c.ask(x -> x.mill(2, 0, 3, 0, 0));
    c.ask(x -> x.stone(0, 2, 40, 3, 60));
    c.ask(x -> x.stone(0, 5, 30, 1, 15));
    c.ask(x -> x.stone(1, 2, 50, 2, 44));
    c.ask(x -> x.stone(2, 1, 12, 2, 70));
    c.ask(x -> x.on(0, 1, 0));
    c.ask(x -> x.sack(0, 1, 50, 3));
    c.ask(x -> x.sack(0, 2, 1500, 9));
    c.ask(x -> x.sack(1, 5, 900, 6));
    c.ask(x -> x.hours(4));
  }

  /** As many of each as there may be, the rows of two MILLS and the numbers that wait too. */
  private static void whole(Counted c) {
    for (int p = 0; p < 4; p++) {
      int of = p;
      c.ask(x -> x.pond(10 + of, 240, 11 * of));
      c.ask(x -> x.water(of, 2000 - 300 * of));
    }
    c.ask(x -> x.mill(0, 0, 4, 90, 0));
    c.ask(x -> x.mill(1, 0, 3, 80, 6));
    c.ask(x -> x.mill(2, 1, 2, 70, 0));
    c.ask(x -> x.mill(0, 2, 1, 60, 0));
    for (int i = 0; i < 4; i++) {
      int n = i;
      c.ask(x -> x.channel(n, (n + 1) % 4, 2 + n));
      for (int s = 0; s < 3; s++) {
        int stone = s;
        c.ask(x -> x.stone(n, 1 + stone, 3 + n, 1 + stone, 20 + 9 * n));
      }
    }
    for (int i = 0; i < 12; i++) {
      int n = i;
      c.ask(x -> x.sack(1, 6, 200 + n, 10 + n));
    }
    c.ask(x -> x.sack(0, 1, 300, 12));
    for (int i = 1; i <= 24; i++) {
      int n = i;
      int level = c.ask(x -> x.ahead(0, n));
      c.ask(x -> x.tell(level));
    }
  }

  private static void nearTheLastHour(Counted c) {
    some(c);
    for (int i = 0; i < 99; i++) {
      c.ask(x -> x.hours(100));
    }
    c.ask(x -> x.hours(46)); // with the 4 of before: HOUR 9950
  }

  private static void atTheLastHour(Counted c) {
    nearTheLastHour(c);
    c.ask(x -> x.hours(50));
  }

  /** The scenes are as full, and as far on, as the refused calls want them. */
  private static void scenes() {
    scene("some", RefusalTest::some, new int[] {2, 1, 3, 4, 2, 2, 5});
    scene("whole", RefusalTest::whole, new int[] {4, 4, 4, 0, 13, 24, 12});
    scene("near the last HOUR", RefusalTest::nearTheLastHour, new int[] {2, 1, 3, 9950, 0, 2, 5});
    scene("at the last HOUR", RefusalTest::atTheLastHour, new int[] {2, 1, 3, 10000, 0, 2, 5});
  }

  private static void scene(String what, Consumer<Counted> scene, int[] want) {
    Counted c = built(scene);
    for (int i = 0; i < want.length; i++) {
      int of = i;
      int got = c.ask(x -> x.count(of));
      if (got != want[i]) {
        fail("scene " + what + ": count(" + i + ") is " + got + ", not " + want[i]);
      }
    }
  }

  // ---- refused calls

  private static void beyondOnNothing() {
    refused("6 gate of none", RefusalTest::nothing, BEYOND, x -> x.gate(0, 0));
    refused("7 water of none", RefusalTest::nothing, BEYOND, x -> x.water(0, 0));
    refused("8 channel of none", RefusalTest::nothing, BEYOND, x -> x.channel(0, 1, 0));
    refused("9 widen of none", RefusalTest::nothing, BEYOND, x -> x.widen(0, 0));
    refused("10 about none", RefusalTest::nothing, BEYOND, x -> x.about(0, 0));
    refused("11 mill at none", RefusalTest::nothing, BEYOND, x -> x.mill(0, 0, 0, 0, 0));
    refused("12 as of none", RefusalTest::nothing, BEYOND, x -> x.as(0, 0));
    refused("13 stone of none", RefusalTest::nothing, BEYOND, x -> x.stone(0, 1, 1, 1, 1));
    refused("14 on of none", RefusalTest::nothing, BEYOND, x -> x.on(0, 0, 0));
    refused("15 sack to none", RefusalTest::nothing, BEYOND, x -> x.sack(0, 0, 1, 0));
    refused("16 row of none", RefusalTest::nothing, BEYOND, x -> x.row(0, 0, 0));
    refused("17 told of none", RefusalTest::nothing, BEYOND, x -> x.told(0, 0));
    refused("21 best of none", RefusalTest::nothing, BEYOND, x -> x.best(0, 1, 0));
    refused("22 ahead of none", RefusalTest::nothing, BEYOND, x -> x.ahead(0, 0));
    refused("25 check of none", RefusalTest::nothing, BEYOND, x -> x.check(0));
  }

  private static void beyond(String what, ToIntFunction<TideMill> call) {
    refused(what, RefusalTest::some, BEYOND, call);
  }

  private static void beyondOfTides() {
    for (int v : new int[] {0, 25, -1, MIN, MAX}) {
      beyond("2 round " + v, x -> x.round(v));
    }
    for (int v : new int[] {-1, 24, MIN, MAX}) {
      beyond("3 place " + v, x -> x.height(v, 50));
    }
    for (int v : new int[] {-1, 201, MIN, MAX}) {
      beyond("3 height " + v, x -> x.height(2, v));
    }
    for (int v : new int[] {-1, MIN}) {
      beyond("4 tide " + v, x -> x.tide(v));
    }
  }

  private static void beyondOfPonds() {
    for (int v : new int[] {0, 101, MIN, MAX}) {
      beyond("5 area " + v, x -> x.pond(v, 1, 1));
    }
    for (int v : new int[] {0, 251, MIN, MAX}) {
      beyond("5 bank " + v, x -> x.pond(1, v, 1));
    }
    for (int v : new int[] {-1, 201, MIN, MAX}) {
      beyond("5 width " + v, x -> x.pond(1, 1, v));
      beyond("8 width " + v, x -> x.channel(0, 1, v));
      beyond("9 width " + v, x -> x.widen(0, v));
    }
    for (int v : new int[] {-1, 2, 3, 4, MIN, MAX}) {
      beyond("6 pond " + v, x -> x.gate(v, 0));
      beyond("7 pond " + v, x -> x.water(v, 0));
      beyond("8 a " + v, x -> x.channel(v, 0, 1));
      beyond("8 b " + v, x -> x.channel(0, v, 1));
      beyond("10 pond " + v, x -> x.about(v, 0));
    }
    for (int v : new int[] {-1, 3, MIN, MAX}) {
      beyond("6 how " + v, x -> x.gate(1, v));
    }
    for (int v : new int[] {-1, 1001, MIN, MAX}) {
      beyond("7 water " + v, x -> x.water(0, v));
    }
    beyond("8 from 0 to itself", x -> x.channel(0, 0, 1));
    beyond("8 from 1 to itself", x -> x.channel(1, 1, 1));
    for (int v : new int[] {-1, 1, 3, 4, MIN, MAX}) {
      beyond("9 channel " + v, x -> x.widen(v, 0));
    }
    for (int v : new int[] {-1, 6, MIN, MAX}) {
      beyond("10 what " + v, x -> x.about(0, v));
    }
  }

  private static void beyondOfMills() {
    for (int v : new int[] {-1, 3, MIN, MAX}) {
      beyond("11 kind " + v, x -> x.mill(v, 0, 0, 0, 0));
      beyond("12 kind " + v, x -> x.as(0, v));
      beyond("12 mill " + v, x -> x.as(v, 0));
      beyond("13 mill " + v, x -> x.stone(v, 1, 1, 1, 1));
      beyond("14 mill " + v, x -> x.on(v, 0, 0));
    }
    for (int v : new int[] {-1, 2, 3, MIN, MAX}) {
      beyond("11 pond " + v, x -> x.mill(0, v, 0, 0, 0));
      beyond("14 stone " + v, x -> x.on(0, v, 0));
      beyond("14 is " + v, x -> x.on(0, 0, v));
    }
    for (int v : new int[] {-1, 10, MIN, MAX}) {
      beyond("11 rank " + v, x -> x.mill(0, 0, v, 0, 0));
      beyond("11 customer of BAKERS " + v, x -> x.mill(1, 0, 0, 0, v));
    }
    for (int v : new int[] {-1, 251, MIN, MAX}) {
      beyond("11 keeps " + v, x -> x.mill(0, 0, 0, v, 0));
    }
    for (int v : new int[] {-1, 1, 9, MIN, MAX}) {
      beyond("11 customer of a MILL " + v, x -> x.mill(0, 0, 0, 0, v));
      beyond("11 customer of FULLING " + v, x -> x.mill(2, 0, 0, 0, v));
    }
    for (int v : new int[] {0, 201, MIN, MAX}) {
      beyond("13 least " + v, x -> x.stone(2, v, 1, 1, 1));
    }
    for (int v : new int[] {0, 1001, MIN, MAX}) {
      beyond("13 draw " + v, x -> x.stone(2, 1, v, 1, 1));
      beyond("13 most " + v, x -> x.stone(2, 1, 1, 1, v));
    }
    for (int v : new int[] {0, 21, MIN, MAX}) {
      beyond("13 rate " + v, x -> x.stone(2, 1, 1, v, 1));
    }
  }

  private static void beyondOfSacks() {
    for (int v : new int[] {-1, 3, 4, MIN, MAX}) {
      beyond("15 mill " + v, x -> x.sack(v, 0, 1, 9));
      beyond("16 mill " + v, x -> x.row(v, 0, 0));
      beyond("17 mill " + v, x -> x.told(v, 0));
    }
    for (int v : new int[] {-1, 10, MIN, MAX}) {
      beyond("15 customer " + v, x -> x.sack(0, v, 1, 9));
      beyond("17 what " + v, x -> x.told(0, v));
      beyond("18 customer " + v, x -> x.flour(v));
    }
    for (int v : new int[] {0, -1, 2001, MIN, MAX}) {
      beyond("15 amount " + v, x -> x.sack(0, 1, v, 9));
    }
    for (int v : new int[] {3, 0, -1, MIN}) {
      beyond("15 due " + v, x -> x.sack(0, 1, 1, v)); // the HOUR is 4
    }
    for (int v : new int[] {-1, 4, MIN, MAX}) {
      beyond("16 what " + v, x -> x.row(0, 0, v));
    }
  }

  private static void beyondOfHours() {
    for (int v : new int[] {0, -1, 101, MIN, MAX}) {
      beyond("19 n " + v, x -> x.hours(v));
    }
    for (int v : new int[] {-1, 3, MIN, MAX}) {
      beyond("21 mill " + v, x -> x.best(v, 1, 0));
    }
    for (int v : new int[] {0, -1, 9, MIN, MAX}) {
      beyond("21 n " + v, x -> x.best(0, v, 0));
    }
    for (int v : new int[] {-1, 2, MIN, MAX}) {
      beyond("21 what " + v, x -> x.best(0, 1, v));
      beyond("22 pond " + v, x -> x.ahead(v, 1));
    }
    for (int v : new int[] {-1, 49, MIN, MAX}) {
      beyond("22 n " + v, x -> x.ahead(0, v));
    }
    for (int v : new int[] {-1, 6, MIN, MAX}) {
      beyond("23 what " + v, x -> x.all(v));
    }
  }

  private static void beyondOfWhatIsTold() {
    for (int v : new int[] {-1, 7, MIN, MAX}) {
      beyond("26 what " + v, x -> x.count(v));
    }
    for (int v : new int[] {0, 6, -1, MIN, MAX}) {
      beyond("27 k " + v, x -> x.found(v));
    }
  }

  private static void kindStateNone() {
    refused("12 a MILL as BAKERS", RefusalTest::some, KIND, x -> x.as(0, 1));
    refused("12 a MILL as FULLING", RefusalTest::some, KIND, x -> x.as(0, 2));
    refused("12 BAKERS as FULLING", RefusalTest::some, KIND, x -> x.as(1, 2));
    refused("12 FULLING as BAKERS", RefusalTest::some, KIND, x -> x.as(2, 1));
    refused("15 to FULLING", RefusalTest::some, KIND, x -> x.sack(2, 0, 1, 9));
    refused("15 to BAKERS, below their own", RefusalTest::some, STATE, x -> x.sack(1, 4, 1, 9));
    refused("15 to BAKERS, above their own", RefusalTest::some, STATE, x -> x.sack(1, 6, 1, 9));
    for (int v : new int[] {-1, 2, 12, MIN, MAX}) {
      refused("16 no sack " + v, RefusalTest::some, NONE, x -> x.row(0, v, 0));
    }
    refused("16 no sack of FULLING", RefusalTest::some, NONE, x -> x.row(2, 0, 3));
    refused("16 no sack 12 of 12", RefusalTest::whole, NONE, x -> x.row(1, 12, 0));
  }

  private static void full() {
    refused("5 a fifth POND", RefusalTest::whole, FULL, x -> x.pond(1, 1, 1));
    refused("8 a fifth CHANNEL", RefusalTest::whole, FULL, x -> x.channel(3, 1, 200));
    refused("11 a fifth MILL", RefusalTest::whole, FULL, x -> x.mill(0, 0, 0, 250, 0));
    refused("11 fifth BAKERS", RefusalTest::whole, FULL, x -> x.mill(1, 0, 0, 250, 3));
    refused("11 fifth FULLING", RefusalTest::whole, FULL, x -> x.mill(2, 0, 0, 250, 0));
    for (int m = 0; m < 4; m++) {
      int of = m;
      refused("13 a fourth STONE of " + m, RefusalTest::whole, FULL, x -> x.stone(of, 1, 1, 20, 1000));
    }
    refused("15 a thirteenth sack", RefusalTest::whole, FULL, x -> x.sack(1, 6, 1, 0));
    refused("24 a 25th number", RefusalTest::whole, FULL, x -> x.tell(-5));
  }

  private static void fullAtTheLastHour() {
    refused("19 51 at 9950", RefusalTest::nearTheLastHour, FULL, x -> x.hours(51));
    refused("19 100 at 9950", RefusalTest::nearTheLastHour, FULL, x -> x.hours(100));
    refused("19 1 at 10000", RefusalTest::atTheLastHour, FULL, x -> x.hours(1));
    refused("19 101 at 10000", RefusalTest::atTheLastHour, BEYOND, x -> x.hours(101));
    refused("15 due below 10000", RefusalTest::atTheLastHour, BEYOND, x -> x.sack(0, 1, 1, 9999));
  }

  // "Each act tells its findings in the order in which they are asked".
  private static void beyondBeforeOthers() {
    refused("5 beyond, then full", RefusalTest::whole, BEYOND, x -> x.pond(1, 1, 201));
    refused("8 beyond, then full", RefusalTest::whole, BEYOND, x -> x.channel(2, 2, 1));
    refused("11 beyond, then full", RefusalTest::whole, BEYOND, x -> x.mill(2, 0, 0, 0, 1));
    refused("13 beyond, then full", RefusalTest::whole, BEYOND, x -> x.stone(0, 1, 1, 21, 1));
    refused("15 beyond, then full", RefusalTest::whole, BEYOND, x -> x.sack(1, 6, 2001, 9));
    refused("15 beyond, then state", RefusalTest::whole, BEYOND, x -> x.sack(1, 10, 1, 9));
    refused("15 beyond, then kind", RefusalTest::whole, BEYOND, x -> x.sack(2, 0, 0, 9));
    refused("15 state, then full", RefusalTest::whole, STATE, x -> x.sack(1, 5, 1, 9));
    refused("12 beyond, then kind", RefusalTest::whole, BEYOND, x -> x.as(4, 1));
    refused("16 beyond, then none", RefusalTest::whole, BEYOND, x -> x.row(0, 12, 4));
    refused("16 no MILL, then none", RefusalTest::whole, BEYOND, x -> x.row(4, 12, 0));
  }

  // 25: "BEYOND: there is no such POND (they are gone, too). (Nothing else changes.)": behind it all is as if no
  // number had been told.
  private static void checkOfNoPond() {
    for (int v : new int[] {-1, 2, 3, MIN, MAX}) {
      Counted plain = built(RefusalTest::someWithoutNumbers);
      Counted tried = built(RefusalTest::some);
      if (tried.ask(x -> x.check(v)) != BEYOND) {
        fail("25 pond " + v + " isn't refused");
      }
      compare("25 pond " + v, findingsOf(plain, 1), findingsOf(tried, 0));
      compare("25 pond " + v, seen(plain), seen(tried));
    }
  }

  private static void checkOfAPond() {
    for (int p = 0; p < 2; p++) {
      int of = p;
      Counted plain = built(RefusalTest::someWithoutNumbers);
      Counted tried = built(RefusalTest::some);
      tried.ask(x -> x.check(of));
      compare("25 check of " + p, findingsOf(plain, 0), findingsOf(tried, 0));
      compare("25 check of " + p, seen(plain), seen(tried));
    }
  }

  // 20, 22, Terms 4: "(Nothing changes.)"; and the calls that tell alone.
  private static void callsThatOnlyTell() {
    unchanged("16 row", RefusalTest::some, x -> x.row(1, 0, 2));
    unchanged("16 row of 12", RefusalTest::whole, x -> x.row(1, 11, 0));
    List<Consumer<Counted>> scenes = List.of(RefusalTest::some, RefusalTest::whole, RefusalTest::atTheLastHour);
    for (Consumer<Counted> scene : scenes) {
      unchanged("4 tide", scene, x -> x.tide(7));
      unchanged("10 about", scene, x -> x.about(1, 0));
      unchanged("12 as", scene, x -> x.as(1, 1));
      unchanged("17 told", scene, x -> x.told(0, 0));
      unchanged("18 flour", scene, x -> x.flour(1));
      unchanged("20 running", scene, TideMill::running);
      for (int m = 0; m < 3; m++) {
        int of = m;
        unchanged("21 best of " + m, scene, x -> x.best(of, 8, 0));
        unchanged("21 best of " + m + ", ground", scene, x -> x.best(of, 1, 1));
      }
      unchanged("22 ahead 0", scene, x -> x.ahead(0, 0));
      unchanged("22 ahead 48", scene, x -> x.ahead(1, 48));
      unchanged("23 all", scene, x -> x.all(0));
      unchanged("26 count", scene, x -> x.count(4));
      unchanged("27 found", scene, x -> x.found(1));
    }
  }
}
