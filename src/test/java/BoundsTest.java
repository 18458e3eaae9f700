import java.util.function.IntUnaryOperator;

/**
 * Every bound that the document names for a call's numbers: all that are allowed between the least and the most,
 * the first that is not on either side, and the ends of int; and how many of each there may be, from none to full.
 * Each case is asked of a new object, so that no answer leans on the one before it.
 */
public final class BoundsTest {
  private static final int BEYOND = -1000000001;
  private static final int NONE = -1000000002;
  private static final int STATE = -1000000003;
  private static final int FULL = -1000000004;
  private static final int KIND = -1000000005;
  private static final int MIN = Integer.MIN_VALUE;
  private static final int MAX = Integer.MAX_VALUE;

  private static int wrong = 0;

  private static void due(String what, int got, int want) {
    if (got != want) {
      wrong++;
      System.out.println(what + " answered " + got + ", due is " + want);
    }
  }

  public static void main(String[] args) {
    newObject();
    round();
    height();
    tide();
    pond();
    gate();
    water();
    channel();
    widen();
    about();
    mill();
    as();
    stone();
    on();
    sack();
    sackOfKinds();
    row();
    told();
    flour();
    hours();
    lastHour();
    best();
    ahead();
    all();
    tell();
    check();
    count();
    found();
    callsOfAnObject();
    System.out.println(wrong == 0 ? "all bounds are as told" : wrong + " bounds are not as told");
    if (wrong != 0) {
      System.exit(1);
    }
  }

  /** From least to most each number has its due answer; next to them, and at the ends of int, it is the finding. */
  private static void bounds(String what, int least, int most, int finding, IntUnaryOperator call, IntUnaryOperator due) {
    for (int v = least; v <= most; v++) {
      due(what + " " + v, call.applyAsInt(v), due.applyAsInt(v));
    }
    due(what + " " + (least - 1), call.applyAsInt(least - 1), finding);
    due(what + " " + (most + 1), call.applyAsInt(most + 1), finding);
    due(what + " MIN", call.applyAsInt(MIN), finding);
    due(what + " MAX", call.applyAsInt(MAX), finding);
  }

  private static void bounds(String what, int least, int most, IntUnaryOperator call, IntUnaryOperator due) {
    bounds(what, least, most, BEYOND, call, due);
  }

  private static TideMill ponds(int n) {
    TideMill x = new TideMill();
    for (int i = 0; i < n; i++) {
      x.pond(10 + i, 20 + i, 30 + i);
    }
    return x;
  }

  private static TideMill channels(int n) {
    TideMill x = ponds(2);
    for (int i = 0; i < n; i++) {
      x.channel(0, 1, 40 + i);
    }
    return x;
  }

  private static TideMill mills(int n) {
    TideMill x = ponds(2);
    for (int i = 0; i < n; i++) {
      x.mill(0, 1, 5 + i, 0, 0);
    }
    return x;
  }

  private static TideMill millOf(int kind) {
    TideMill x = ponds(1);
    x.mill(kind, 0, 3, 0, 0);
    return x;
  }

  private static TideMill stones(int n) {
    TideMill x = mills(1);
    for (int i = 0; i < n; i++) {
      x.stone(0, 1, 1, 1, 1);
    }
    return x;
  }

  private static TideMill sacks(int n) {
    TideMill x = mills(1);
    for (int i = 0; i < n; i++) {
      x.sack(0, i % 10, 100 + i, 50 + i);
    }
    return x;
  }

  private static TideMill numbers(int n) {
    TideMill x = new TideMill();
    for (int i = 0; i < n; i++) {
      x.tell(i);
    }
    return x;
  }

  private static TideMill atHour(int hour) {
    TideMill x = new TideMill();
    for (int left = hour; left > 0; left -= 100) {
      x.hours(Math.min(left, 100));
    }
    return x;
  }

  // 1: "No PONDS; HOUR 0; TIDES as told."
  private static void newObject() {
    for (int what = 0; what <= 5; what++) {
      due("1 count(" + what + ")", new TideMill().count(what), 0);
      due("1 all(" + what + ")", new TideMill().all(what), 0);
    }
    due("1 no POND 0", new TideMill().about(0, 0), BEYOND);
    due("1 no CHANNEL 0", new TideMill().widen(0, 0), BEYOND);
    due("1 no MILL 0", new TideMill().told(0, 0), BEYOND);
    due("1 no finding", new TideMill().found(1), 0);
  }

  // Terms 1: "THE TIDE has a ROUND of 1 to 24 HOURS (12 at first)"; 2: "what it was. BEYOND."
  private static void round() {
    due("2 at first", new TideMill().count(6), 12);
    bounds("2 round", 1, 24, v -> new TideMill().round(v), v -> 12);
    bounds("2 round, what it is then", 1, 24, v -> {
      TideMill x = new TideMill();
      int answer = x.round(v);
      return answer == BEYOND ? answer : x.count(6);
    }, v -> v);
    bounds("2 round, what it was", 1, 24, v -> {
      TideMill x = new TideMill();
      int answer = x.round(v);
      return answer == BEYOND ? answer : x.round(1);
    }, v -> v);
  }

  // Terms 1: "with a HEIGHT (0 .. 200) for each of 24 places: at first 100 less 10 times how far the place is
  // from 6 (at least 0)"; 3: "BEYOND: there is no such place, or v isn't as told."
  private static void height() {
    int[] first = {40, 50, 60, 70, 80, 90, 100, 90, 80, 70, 60, 50, 40, 30, 20, 10, 0, 0, 0, 0, 0, 0, 0, 0};
    bounds("3 place", 0, 23, v -> new TideMill().height(v, 7), v -> first[v]);
    bounds("3 v at place 0", 0, 200, v -> new TideMill().height(0, v), v -> 40);
    bounds("3 v at place 23", 0, 200, v -> new TideMill().height(23, v), v -> 0);
    bounds("3 v, what it is then", 0, 200, v -> {
      TideMill x = new TideMill();
      int answer = x.height(5, v);
      return answer == BEYOND ? answer : x.tide(5);
    }, v -> v);
    due("3 neither", new TideMill().height(24, 201), BEYOND);
  }

  // 4: "TIDE of an HOUR. BEYOND: it is below 0."
  private static void tide() {
    due("4 0", new TideMill().tide(0), 40);
    due("4 -1", new TideMill().tide(-1), BEYOND);
    due("4 MIN", new TideMill().tide(MIN), BEYOND);
    due("4 10000", new TideMill().tide(10000), 80); // place 4
    due("4 10001", new TideMill().tide(10001), 90);
    due("4 MAX", new TideMill().tide(MAX), 90); // place 7
  }

  // Terms 1: "PONDS 0, 1, .. (at most 4) have an AREA (1 .. 100), a BANK (1 .. 250), WATER (0 at first) and a GATE
  // .. with a WIDTH (0 .. 200)"; 5: "A POND comes (GATE: FLAP): its number. BEYOND .. FULL."
  private static void pond() {
    bounds("5 area", 1, 100, v -> new TideMill().pond(v, 9, 9), v -> 0);
    bounds("5 bank", 1, 250, v -> new TideMill().pond(9, v, 9), v -> 0);
    bounds("5 width", 0, 200, v -> new TideMill().pond(9, 9, v), v -> 0);
    for (int n = 0; n < 4; n++) {
      TideMill x = ponds(n);
      due("5 its number behind " + n, x.pond(1, 1, 0), n);
      due("5 how many behind " + n, x.count(0), n + 1);
      due("5 AREA of " + n, x.about(n, 3), 1);
      due("5 WATER of " + n, x.about(n, 1), 0);
      due("5 GATE of " + n, x.about(n, 2), 1);
    }
    due("5 a fifth", ponds(4).pond(1, 1, 0), FULL);
    due("5 a fifth, the widest", ponds(4).pond(100, 250, 200), FULL);
    due("5 a fifth that is beyond", ponds(4).pond(101, 250, 200), BEYOND);
  }

  // 6: "GATE of a POND: what it was. BEYOND: there is no such one, or how isn't 0 .. 2."
  private static void gate() {
    for (int n = 0; n <= 4; n++) {
      int there = n;
      bounds("6 pond of " + n, 0, n - 1, v -> ponds(there).gate(v, 0), v -> 1);
    }
    bounds("6 how", 0, 2, v -> ponds(1).gate(0, v), v -> 1);
    bounds("6 how, what it is then", 0, 2, v -> {
      TideMill x = ponds(1);
      int answer = x.gate(0, v);
      return answer == BEYOND ? answer : x.about(0, 2);
    }, v -> v);
  }

  // 7: "WATER of a POND is v (0 .. AREA times BANK): what it was. BEYOND."
  private static void water() {
    for (int n = 0; n <= 4; n++) {
      int there = n;
      bounds("7 pond of " + n, 0, n - 1, v -> ponds(there).water(v, 5), v -> 0);
    }
    int[][] of = {{1, 1}, {1, 250}, {100, 1}, {7, 13}, {100, 250}};
    for (int[] p : of) {
      bounds("7 AREA " + p[0] + " BANK " + p[1], 0, p[0] * p[1], v -> {
        TideMill x = new TideMill();
        x.pond(p[0], p[1], 0);
        int answer = x.water(0, v);
        return answer == BEYOND ? answer : x.about(0, 1);
      }, v -> v);
    }
    TideMill x = ponds(2);
    due("7 was at first", x.water(1, 231), 0);
    due("7 was full", x.water(1, 0), 231);
    due("7 was empty", x.water(1, 0), 0);
  }

  // Terms 1: "CHANNELS (at most 4) lead between two PONDS, with a WIDTH (0 .. 200)"; 8: "BEYOND: there is no such
  // POND (either), they are the same, or width isn't as told. FULL."
  private static void channel() {
    for (int n = 0; n <= 4; n++) {
      for (int a = -1; a <= 4; a++) {
        for (int b = -1; b <= 4; b++) {
          boolean may = a >= 0 && a < n && b >= 0 && b < n && a != b;
          due("8 channel(" + a + ", " + b + ") of " + n, ponds(n).channel(a, b, 5), may ? 0 : BEYOND);
        }
      }
    }
    due("8 a MAX", ponds(4).channel(MAX, 0, 5), BEYOND);
    due("8 b MAX", ponds(4).channel(0, MAX, 5), BEYOND);
    due("8 a MIN", ponds(4).channel(MIN, 0, 5), BEYOND);
    due("8 b MIN", ponds(4).channel(0, MIN, 5), BEYOND);
    bounds("8 width", 0, 200, v -> ponds(2).channel(0, 1, v), v -> 0);
    for (int n = 0; n < 4; n++) {
      TideMill x = channels(n);
      due("8 its number behind " + n, x.channel(1, 0, 0), n);
      due("8 how many behind " + n, x.count(1), n + 1);
    }
    due("8 a fifth", channels(4).channel(1, 0, 0), FULL);
    due("8 a fifth that is beyond", channels(4).channel(1, 1, 0), BEYOND);
  }

  // 9: "WIDTH of a CHANNEL: what it was. BEYOND: there is no such one, or width isn't as told."
  private static void widen() {
    for (int n = 0; n <= 4; n++) {
      int there = n;
      bounds("9 channel of " + n, 0, n - 1, v -> channels(there).widen(v, 5), v -> 40 + v);
    }
    bounds("9 width", 0, 200, v -> channels(1).widen(0, v), v -> 40);
    bounds("9 width, what it is then", 0, 200, v -> {
      TideMill x = channels(1);
      int answer = x.widen(0, v);
      return answer == BEYOND ? answer : x.widen(0, 0);
    }, v -> v);
  }

  // 10: "Of a POND: 0 LEVEL, .. 5 MILLS at it. BEYOND: there is no such one, or another what."
  private static void about() {
    for (int n = 0; n <= 4; n++) {
      int there = n;
      bounds("10 pond of " + n, 0, n - 1, v -> ponds(there).about(v, 3), v -> 10 + v);
    }
    int[] want = {0, 0, 1, 11, 21, 3};
    bounds("10 what", 0, 5, v -> mills(3).about(1, v), v -> want[v]);
    for (int n = 0; n <= 4; n++) {
      due("10 MILLS at it, of " + n, mills(n).about(1, 5), n);
      due("10 MILLS at the other, of " + n, mills(n).about(0, 5), 0);
    }
    // "LEVEL of a POND: WATER by AREA", "Quotients are cut."
    int[][] levels = {{0, 0}, {9, 0}, {10, 1}, {11, 1}, {19, 1}, {20, 2}, {199, 19}, {200, 20}};
    for (int[] l : levels) {
      TideMill x = ponds(1);
      x.water(0, l[0]);
      due("10 LEVEL of " + l[0], x.about(0, 0), l[1]);
    }
  }

  // Terms 2: "MILLS 0, 1, .. (at most 4)", "a RANK (0 .. 9 ..), KEEPS a LEVEL (0 .. 250)"; 11: "BEYOND: there is no
  // such kind, POND, or a number isn't as told (of BAKERS customer 0 .. 9; of others it is 0). FULL."
  private static void mill() {
    bounds("11 kind", 0, 2, v -> ponds(1).mill(v, 0, 1, 1, 0), v -> 0);
    for (int n = 0; n <= 4; n++) {
      int there = n;
      bounds("11 pond of " + n, 0, n - 1, v -> ponds(there).mill(0, v, 1, 1, 0), v -> 0);
    }
    for (int kind = 0; kind <= 2; kind++) {
      int k = kind;
      bounds("11 rank, kind " + k, 0, 9, v -> ponds(1).mill(k, 0, v, 1, 0), v -> 0);
      bounds("11 keeps, kind " + k, 0, 250, v -> ponds(1).mill(k, 0, 1, v, 0), v -> 0);
      bounds("11 customer, kind " + k, 0, k == 1 ? 9 : 0, v -> ponds(1).mill(k, 0, 1, 1, v), v -> 0);
    }
    bounds("11 rank, what it is then", 0, 9, v -> {
      TideMill x = ponds(1);
      int answer = x.mill(0, 0, v, 0, 0);
      return answer == BEYOND ? answer : x.told(0, 9);
    }, v -> v);
    for (int n = 0; n < 4; n++) {
      TideMill x = mills(n);
      due("11 its number behind " + n, x.mill(2, 0, 0, 0, 0), n);
      due("11 how many behind " + n, x.count(2), n + 1);
    }
    for (int kind = 0; kind <= 2; kind++) {
      due("11 a fifth, kind " + kind, mills(4).mill(kind, 0, 0, 0, 0), FULL);
    }
    due("11 a fifth that is beyond", mills(4).mill(0, 0, 0, 0, 1), BEYOND);
    due("11 a fifth of no kind", mills(4).mill(3, 0, 0, 0, 0), BEYOND);
  }

  // Terms 2: "0 MILL, 1 BAKERS under MILL, 2 FULLING under MILL"; 12: "BEYOND: there is no such one, or kind. KIND:
  // it isn't of that kind, nor of one under it."
  private static void as() {
    for (int n = 0; n <= 4; n++) {
      int there = n;
      bounds("12 mill of " + n, 0, n - 1, v -> mills(there).as(v, 0), v -> 5 + v);
    }
    int[][] want = {{3, KIND, KIND}, {3, 3, KIND}, {3, KIND, 3}};
    for (int kind = 0; kind <= 2; kind++) {
      int k = kind;
      bounds("12 as, one of kind " + k, 0, 2, v -> millOf(k).as(0, v), v -> want[k][v]);
    }
    due("12 neither is there", mills(1).as(1, 3), BEYOND);
  }

  // Terms 2: "STONES 0, 1, .. (at most 3): LEAST (.. 1 .. 200), DRAW (1 .. 1000 ..), RATE (1 .. 20), MOST (1 ..
  // 1000), ON or not (ON at first)"; 13: "BEYOND: there is no such MILL, or a number isn't as told. FULL."
  private static void stone() {
    for (int n = 0; n <= 4; n++) {
      int there = n;
      bounds("13 mill of " + n, 0, n - 1, v -> mills(there).stone(v, 1, 1, 1, 1), v -> 0);
    }
    bounds("13 least", 1, 200, v -> mills(1).stone(0, v, 1, 1, 1), v -> 0);
    bounds("13 draw", 1, 1000, v -> mills(1).stone(0, 1, v, 1, 1), v -> 0);
    bounds("13 rate", 1, 20, v -> mills(1).stone(0, 1, 1, v, 1), v -> 0);
    bounds("13 most", 1, 1000, v -> mills(1).stone(0, 1, 1, 1, v), v -> 0);
    for (int n = 0; n < 3; n++) {
      TideMill x = stones(n);
      due("13 its number behind " + n, x.stone(0, 200, 1000, 20, 1000), n);
      due("13 how many behind " + n, x.told(0, 8), n + 1);
      due("13 ON at first, " + n, x.on(0, n, 1), 1);
    }
    due("13 a fourth", stones(3).stone(0, 1, 1, 1, 1), FULL);
    due("13 a fourth that is beyond", stones(3).stone(0, 1, 1, 1, 0), BEYOND);
    TideMill x = stones(3);
    x.mill(0, 0, 0, 0, 0);
    due("13 the other MILL's first", x.stone(1, 1, 1, 1, 1), 0);
  }

  // 14: "A STONE is ON (1) or not (0): what it was. BEYOND: there is no such MILL, STONE, or is isn't 0 or 1."
  private static void on() {
    for (int n = 0; n <= 3; n++) {
      int there = n;
      bounds("14 stone of " + n, 0, n - 1, v -> stones(there).on(0, v, 0), v -> 1);
    }
    bounds("14 mill", 0, 0, v -> stones(3).on(v, 0, 0), v -> 1);
    due("14 no MILL at all", new TideMill().on(0, 0, 0), BEYOND);
    bounds("14 is", 0, 1, v -> stones(1).on(0, 0, v), v -> 1);
    bounds("14 is, what it is then", 0, 1, v -> {
      TideMill x = stones(1);
      int answer = x.on(0, 0, v);
      return answer == BEYOND ? answer : x.on(0, 0, 1);
    }, v -> v);
    TideMill x = stones(1);
    x.mill(0, 0, 0, 0, 0);
    due("14 a MILL without STONES", x.on(1, 0, 0), BEYOND);
  }

  // Terms 2: "SACKS wait in a MILL's row (at most 12), each of a CUSTOMER (0 .. 9), of an AMOUNT (1 .. 2000), DUE by
  // an HOUR"; 15: "how many wait. BEYOND: .. or due is below the HOUR. .. FULL."
  private static void sack() {
    for (int n = 0; n <= 4; n++) {
      int there = n;
      bounds("15 mill of " + n, 0, n - 1, v -> mills(there).sack(v, 1, 1, 1), v -> 1);
    }
    bounds("15 customer", 0, 9, v -> mills(1).sack(0, v, 1, 1), v -> 1);
    bounds("15 amount", 1, 2000, v -> mills(1).sack(0, 1, v, 1), v -> 1);
    int[] hours = {0, 1, 7, 9999, 10000};
    for (int hour : hours) {
      due("15 due by HOUR " + hour, dueAt(hour, hour), 1);
      due("15 due behind HOUR " + hour, dueAt(hour, hour + 1), 1);
      due("15 due below HOUR " + hour, dueAt(hour, hour - 1), BEYOND);
      due("15 due MIN at HOUR " + hour, dueAt(hour, MIN), BEYOND);
      due("15 due MAX at HOUR " + hour, dueAt(hour, MAX), 1);
    }
    for (int n = 0; n < 12; n++) {
      TideMill x = sacks(n);
      due("15 how many wait behind " + n, x.sack(0, 0, 1, 0), n + 1);
      due("15 it is last of " + n, x.row(0, n, 1), 1);
      due("15 count(4) behind " + n, x.count(4), n + 1);
    }
    due("15 a thirteenth", sacks(12).sack(0, 0, 1, 0), FULL);
    due("15 a thirteenth that is beyond", sacks(12).sack(0, 0, 0, 0), BEYOND);
    TideMill x = sacks(12);
    x.mill(0, 0, 0, 0, 0);
    due("15 the other MILL's first", x.sack(1, 0, 1, 0), 1);
  }

  private static int dueAt(int hour, int due) {
    TideMill x = atHour(hour);
    x.pond(1, 1, 0);
    x.mill(0, 0, 0, 0, 0);
    return x.sack(0, 1, 1, due);
  }

  // Terms 2: "BAKERS have sacks of one CUSTOMER alone, FULLING has none"; 15: "KIND: FULLING. STATE: it isn't the
  // BAKERS' CUSTOMER. FULL."
  private static void sackOfKinds() {
    for (int own = 0; own <= 9; own++) {
      for (int customer = -1; customer <= 10; customer++) {
        TideMill x = ponds(1);
        x.mill(1, 0, 0, 0, own);
        int want = customer < 0 || customer > 9 ? BEYOND : customer == own ? 1 : STATE;
        due("15 sack of " + customer + " to the BAKERS of " + own, x.sack(0, customer, 5, 5), want);
      }
    }
    bounds("15 fulling, customer", 0, 9, v -> millOf(2).sack(0, v, 5, 5), v -> KIND);
    bounds("15 fulling, amount", 1, 2000, v -> millOf(2).sack(0, 0, v, 5), v -> KIND);
    due("15 fulling, due below the HOUR", millOf(2).sack(0, 0, 5, -1), BEYOND);
    TideMill x = ponds(1);
    x.mill(1, 0, 0, 0, 7);
    for (int i = 1; i <= 12; i++) {
      due("15 bakers' sack " + i, x.sack(0, 7, 5, 5), i);
    }
    due("15 bakers' thirteenth", x.sack(0, 7, 5, 5), FULL);
    due("15 bakers' thirteenth of another", x.sack(0, 6, 5, 5), STATE);
    due("15 bakers' thirteenth that is beyond", x.sack(0, 6, 2001, 5), BEYOND);
  }

  // 16: "Sack i of a row (from 0 on) .. BEYOND: there is no such MILL, or another what. NONE: there is no such sack."
  private static void row() {
    for (int n = 0; n <= 4; n++) {
      int there = n;
      bounds("16 mill of " + n, 0, n - 1, v -> mills(there).row(v, 0, 0), v -> NONE);
    }
    for (int n = 0; n <= 12; n++) {
      int there = n;
      bounds("16 i, customer of " + n, 0, n - 1, NONE, v -> sacks(there).row(0, v, 0), v -> v % 10);
      bounds("16 i, amount of " + n, 0, n - 1, NONE, v -> sacks(there).row(0, v, 1), v -> 100 + v);
      bounds("16 i, wants of " + n, 0, n - 1, NONE, v -> sacks(there).row(0, v, 2), v -> 100 + v);
      bounds("16 i, due of " + n, 0, n - 1, NONE, v -> sacks(there).row(0, v, 3), v -> 50 + v);
    }
    int[] want = {2, 102, 102, 52};
    bounds("16 what", 0, 3, v -> sacks(3).row(0, 2, v), v -> want[v]);
    bounds("16 what, no such sack", 0, 3, v -> sacks(3).row(0, 3, v), v -> NONE);
    due("16 no MILL, no sack", sacks(3).row(1, 3, 0), BEYOND);
  }

  // 17: "0 head now (may be below 0), .. 9 RANK. BEYOND: there is no such one, or another what."
  private static void told() {
    for (int n = 0; n <= 4; n++) {
      int there = n;
      bounds("17 mill of " + n, 0, n - 1, v -> mills(there).told(v, 9), v -> 5 + v);
    }
    int[] want = {-40, 0, 0, 0, 0, 0, 0, 3, 0, 5};
    bounds("17 what", 0, 9, v -> sacks(3).told(0, v), v -> want[v]);
    for (int n = 0; n <= 12; n++) {
      due("17 sacks that wait, " + n, sacks(n).told(0, 7), n);
    }
    for (int n = 0; n <= 3; n++) {
      due("17 STONES, " + n, stones(n).told(0, 8), n);
    }
    for (int tide = 0; tide <= 200; tide++) {
      TideMill x = mills(1);
      x.height(0, tide);
      x.water(1, 11 * 21);
      due("17 head under a TIDE of " + tide, x.told(0, 0), 21 - tide);
    }
  }

  // 18: "What a CUSTOMER has ground .. BEYOND."
  private static void flour() {
    bounds("18 customer", 0, 9, v -> new TideMill().flour(v), v -> 0);
  }

  // 19: "n HOURS go by .. BEYOND: n isn't 1 .. 100."
  private static void hours() {
    bounds("19 n", 1, 100, v -> new TideMill().hours(v), v -> 0);
    bounds("19 n, the HOUR then", 1, 100, v -> {
      TideMill x = new TideMill();
      int answer = x.hours(v);
      return answer == BEYOND ? answer : x.count(3);
    }, v -> v);
  }

  // 19: "FULL: the HOUR would be above 10000."
  private static void lastHour() {
    for (int from = 9900; from <= 10000; from++) {
      int left = 10000 - from;
      if (left > 0) {
        TideMill x = atHour(from);
        due("19 up to 10000 from " + from, x.hours(left), 0);
        due("19 at 10000 from " + from, x.count(3), 10000);
      }
      if (left < 100) {
        TideMill x = atHour(from);
        due("19 up to 10001 from " + from, x.hours(left + 1), FULL);
        due("19 still at " + from, x.count(3), from);
      }
    }
    due("19 100 at 10000", atHour(10000).hours(100), FULL);
    due("19 101 at 10000", atHour(10000).hours(101), BEYOND);
    due("19 0 at 10000", atHour(10000).hours(0), BEYOND);
    due("19 MAX at 10000", atHour(10000).hours(MAX), BEYOND);
  }

  // 21: "BEYOND: there is no such MILL, n isn't 1 .. 8, or another what."
  private static void best() {
    for (int n = 0; n <= 4; n++) {
      int there = n;
      bounds("21 mill of " + n, 0, n - 1, v -> mills(there).best(v, 1, 0), v -> 0);
    }
    bounds("21 n", 1, 8, v -> grinder().best(0, v, 0), v -> (1 << v) - 1);
    bounds("21 n, ground", 1, 8, v -> grinder().best(0, v, 1), v -> 4 * v);
    bounds("21 what", 0, 1, v -> grinder().best(0, 3, v), v -> v == 0 ? 7 : 12);
  }

  /** A MILL that grinds 4 in every HOUR. */
  private static TideMill grinder() {
    TideMill x = new TideMill();
    x.round(1);
    x.height(0, 0);
    x.pond(100, 250, 0);
    x.water(0, 25000);
    x.mill(0, 0, 0, 0, 0);
    x.stone(0, 1, 1, 1, 4);
    return x;
  }

  // 22: "LEVEL of a POND behind n more HOURS. BEYOND: there is no such one, or n isn't 0 .. 48."
  private static void ahead() {
    for (int n = 0; n <= 4; n++) {
      int there = n;
      bounds("22 pond of " + n, 0, n - 1, v -> ponds(there).ahead(v, 0), v -> 0);
    }
    bounds("22 n", 0, 48, v -> risingWithTheSea().ahead(0, v), v -> v == 0 ? 0 : (v - 1) % 24 + 1);
  }

  /** A POND that stands as high as the sea behind each HOUR: 1, 2, .. 24, and 1 again. */
  private static TideMill risingWithTheSea() {
    TideMill x = new TideMill();
    x.round(24);
    for (int place = 0; place < 24; place++) {
      x.height(place, place + 1);
    }
    x.pond(1, 250, 200);
    x.gate(0, 2);
    return x;
  }

  // 23: "All WATER: 0 in PONDS, .. BEYOND: another what."
  private static void all() {
    bounds("23 what", 0, 5, v -> new TideMill().all(v), v -> 0);
  }

  // 24: "One more number waits: how many. FULL: 24 wait."
  private static void tell() {
    for (int n = 0; n < 24; n++) {
      TideMill x = numbers(n);
      due("24 one more behind " + n, x.tell(MAX), n + 1);
      due("24 count(5) behind " + n, x.count(5), n + 1);
    }
    int[] any = {MIN, -1000000001, -1, 0, 1, 250, MAX};
    for (int v : any) {
      due("24 tell(" + v + ")", new TideMill().tell(v), 1);
      due("24 a 25th, " + v, numbers(24).tell(v), FULL);
    }
    TideMill x = numbers(24);
    x.tell(1);
    due("24 24 wait still", x.count(5), 24);
  }

  // 25: "BEYOND: there is no such POND (they are gone, too)."
  private static void check() {
    for (int n = 0; n <= 4; n++) {
      int there = n;
      bounds("25 pond of " + n, 0, n - 1, v -> ponds(there).check(v), v -> 0);
      bounds("25 pond of " + n + ", numbers gone", 0, n - 1, 0, v -> {
        TideMill x = ponds(there);
        x.tell(1);
        x.tell(2);
        x.check(v);
        return x.count(5);
      }, v -> 0);
    }
  }

  // 26: "0 PONDS, .. 6 ROUND. BEYOND: another what."
  private static void count() {
    int[] want = {0, 0, 0, 0, 0, 0, 12};
    bounds("26 what", 0, 6, v -> new TideMill().count(v), v -> want[v]);
  }

  // 27: "How many acts have answered a finding LOW - k (k 1 .. 5); BEYOND: another k (counted, too)."
  private static void found() {
    bounds("27 k", 1, 5, v -> new TideMill().found(v), v -> 0);
    int[] another = {0, 6, -1, 7, MIN, MAX};
    for (int k : another) {
      TideMill x = new TideMill();
      x.found(k);
      due("27 found(" + k + ") is counted", x.found(1), 1);
      due("27 asking is none", x.found(1), 1);
    }
  }

  // "An object is used for at most 512 calls after it has been made": the last of them answers as due.
  private static void callsOfAnObject() {
    TideMill x = new TideMill();
    for (int i = 1; i <= 511; i++) {
      due("call " + i, x.found(0), BEYOND);
    }
    due("call 512", x.found(1), 511);
    TideMill y = new TideMill();
    for (int i = 1; i <= 511; i++) {
      due("hour " + i, y.hours(1), 0);
    }
    due("call 512 of HOURS", y.count(3), 511);
  }
}
